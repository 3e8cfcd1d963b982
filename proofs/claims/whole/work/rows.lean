section
/-- the tables have the class of arrays over arrays of t (the printed rows name it, but don't hold it) -/
def va_AOA (t : FieldType) (U : State) : Prop := (Cond.arrayOver (.array t)).before #[] U = true
theorem va_AOA.use {t : FieldType} {A : Array Value} {U : State} (h : va_AOA t U) : (Cond.arrayOver (.array t)).before A U = true := h
/-! ===== BEGIN words of one list among another's, by their places ===== -/
theorem goodIn_r {big : List Cond} (ws : List Cond) (ps : List Nat) (hp : ws = ps.filterMap (fun i => big[i]?)) (h : ws.all goodWord = true) : GoodIn big ws := by
  intro w hw
  have h1 := List.all_eq_true.mp h w hw
  rw [hp] at hw
  obtain ⟨i, -, hi⟩ := List.mem_filterMap.mp hw
  have hm : w ∈ big := by first | exact List.mem_of_getElem? hi | exact List.getElem?_mem hi
  exact ⟨hm, good_of_word h1⟩
theorem goodIn_app {big a b : List Cond} (ha : GoodIn big a) (hb : GoodIn big b) : GoodIn big (a ++ b) := fun w h => (List.mem_append.mp h).elim (ha w) (hb w)
theorem goodIn_ca {big a b : List Cond} {c : Cond} (ha : GoodIn big (c :: a)) (hb : GoodIn big b) : GoodIn big (c :: (a ++ b)) := fun w h => (List.mem_cons.mp h).elim (fun e => ha w (List.mem_cons.mpr (Or.inl e))) (fun h => (List.mem_append.mp h).elim (fun h => ha w (List.mem_cons.mpr (Or.inr h))) (hb w))
theorem goodIn_sub {big ws : List Cond} (hm : ∀ w ∈ ws, w ∈ big) (h : ws.all goodWord = true) : GoodIn big ws := fun w hw => ⟨hm w hw, good_of_word (List.all_eq_true.mp h w hw)⟩
/-! ===== END ===== -/

/-! ===== BEGIN new T[n][m]: the outer array a place, the inner ones among the pooled ===== -/
/-- f, but v at every address of l -/
def vr_up {α : Type} (f : Nat → α) (l : List Nat) (v : α) : Nat → α := fun a => if a ∈ l then v else f a
theorem vr_up_in {α : Type} {f : Nat → α} {l : List Nat} {v : α} {a : Nat} (h : a ∈ l) : vr_up f l v a = v := if_pos h
theorem vr_up_ne {α : Type} {f : Nat → α} {l : List Nat} {v : α} {a : Nat} (h : a ∉ l) : vr_up f l v a = f a := if_neg h
theorem vr_rows {L l : List Nat} {f : Nat → va_E} {e : va_E} (h : ∀ a, a ∈ l → a ∉ L) : va_pl L f ++ l.map (fun a => (a, e)) = va_pl (L ++ l) (vr_up f l e) := by
  unfold va_pl
  rw [List.map_append]
  congr 1
  · apply List.map_congr_left
    intro a ha
    rw [vr_up_ne (fun q => h a q ha)]
  · apply List.map_congr_left
    intro a ha
    rw [vr_up_in ha]
theorem vr_lay {X rows : va_W} {x : Nat × va_E} {pl : va_W} {D : va_G} {cl : List vw_C} {H : Heap} (hP : va_P D cl (((X ++ pl) ++ [x]) ++ rows) H) : va_P D cl ((X ++ [x]) ++ (pl ++ rows)) H := by
  rw [List.append_assoc (X ++ pl)] at hP
  have h := va_P.swap hP
  rw [← List.append_assoc X] at h
  have h2 := va_P.swap h
  rw [List.append_assoc (X ++ [x])] at h2
  exact h2
theorem vr_layD {X rows : va_W} {x : Nat × va_E} {pl : va_W} {A : Nat → Prop} (hD : va_D A (((X ++ pl) ++ [x]) ++ rows)) : va_D A ((X ++ [x]) ++ (pl ++ rows)) := by
  rw [List.append_assoc (X ++ pl)] at hD
  have h := va_D.swap hD
  rw [← List.append_assoc X] at h
  have h2 := va_D.swap h
  rw [List.append_assoc (X ++ [x])] at h2
  exact h2
theorem vr_outer (c : ClassId) (N h0 : Nat) : ∀ i : Nat, Jvm.Free.Multi.outerC c N h0 i = arrV c N (fun j => va_rf (if j < i then some (h0 + 1 + j) else none))
  | 0 => by
    show ({ cls := c, slots := Array.replicate N .null, vm := .none } : Cell) = _
    rw [arrV_new]
    refine congrArg (arrV c N) (funext fun j => ?_)
    simp [va_rf]
  | i + 1 => by
    show (Jvm.Free.Multi.outerC c N h0 i).setSlot i (.ref (h0 + 1 + i)) = _
    rw [vr_outer c N h0 i, arrV_store]
    refine congrArg (arrV c N) (funext fun j => ?_)
    by_cases e : j = i
    · subst e
      simp [updV, va_rf]
    · by_cases h : j < i
      · simp [updV, e, h, Nat.lt_succ_of_lt h]
      · simp [updV, e, h, show ¬ j < i + 1 by omega]
section VGM
variable {p : Program} {l : Launch} {e : Env} {R : Room} {s : State} {m : MethodId} {args : Array Value} {below : List Frame} {meth : Method} {c : Code} {H : Heap} {locs : List Loc} {cells slots : Nat} {Q : State → Prop}
variable {cc : ByteArray} {pc : Nat} {ls : Array Slot} {rest : List Value} {D : va_G} {cl : List vw_C} {A : Nat → Prop} {a : Nat} {tys : List (ClassId × FieldType)} {ws : va_W} {H0 : Heap}
theorem va_mna {X : va_W} {L : List Nat} {f : Nat → va_E} {cc : ByteArray} (hexec : p.tables.exec = Jvm.exec) (hb : c.code = cc) {own : String} {index : Nat} {ty : FieldType} {cy : ClassId} (hown : s.vm.findClass own = some m.cls) (hclink : (Cond.classLink own index ("[" ++ (FieldType.array ty).toString)).before args s = true) (hover : va_AOA ty s) (harr : (Cond.arrayClass ty).before args s = true) (hcy : s.vm.findClass (FieldType.array ty).toString = some cy)
    (hK : va_K D cl tys s) (hP : va_P D cl (X ++ va_pl L f) H) (hD : va_D A (X ++ va_pl L f)) (hS : va_S A H0 H locs) (hA : ∀ q, H0.size ≤ q → A q) {n k : Int32} {N' K' : Nat} {z : vp_A} (hn : ¬ n < 0) (hk : ¬ k < 0) (hN : n.toNatClampNeg = N') (hM : k.toNatClampNeg = K')
    (hb1 : N' * 4 ≤ 536870912) (hb2 : K' * componentBytes ty ≤ 536870912) (hb3 : K' ≤ 536870912) (hdf : fits ty (defaultValue ty) = true) (hdd : (defaultValue ty).isDefault = true) (hcells : cells + (1 + N') ≤ R.cells) (hslots : slots + (N' + N' * K') ≤ R.slots) (hz : ∀ c : ClassId, Jvm.Free.Multi.innerC c K' (defaultValue ty) = vp_cell c z) (hdg : decode cc pc = .ok (.multianewarray index 2, 4))
    (kk : ∀ (q : Nat) (r : Nat → Nat) (cA : ClassId) (H1 : Heap), (∀ i j : Nat, i < N' → j < N' → r i = r j → i = j) → (∀ i : Nat, i < N' → r i ∉ L) → va_K D cl (tys ++ [(cA, .array ty)]) s →
      va_P D cl ((X ++ [(q, .inl (cA, N', .inr (.inr (.inr (.inr (fun i => if i < N' then some (r i) else none))))))]) ++ va_pl (L ++ (List.range N').map r) (vr_up f ((List.range N').map r) (.inl (cy, z)))) H1 → va_D A ((X ++ [(q, .inl (cA, N', .inr (.inr (.inr (.inr (fun i => if i < N' then some (r i) else none))))))]) ++ va_pl (L ++ (List.range N').map r) (vr_up f ((List.range N').map r) (.inl (cy, z)))) → va_S A H0 H1 locs →
      W p l e R s m args below meth c H1 locs (cells + 1 + N') (slots + N' + N' * K') Q (F0 m (pc + 4) ls (.ref q :: rest))) : W p l e R s m args below meth c H locs cells slots Q (F0 m pc ls (.int k :: .int n :: rest)) := by
  subst hN
  subst hM
  intro T hT Xs
  obtain ⟨vm₁, cA, comp, -, fA, fC, hO, -, X', step⟩ := Xs.multianewarray2F hexec hown hclink (va_AOA.use hover) harr (g := F0 m pc ls (.int k :: .int n :: rest)) rfl (by rw [hb]; exact hdg) rfl hn hk hb1 hb2 hb3 hdf hdd hcells hslots
  have ec : some cy = some comp := hcy.symm.trans fC
  cases ec
  generalize hF : Jvm.Free.Multi.fill (T.setVm vm₁) cA cy n.toNatClampNeg k.toNatClampNeg (defaultValue ty) n.toNatClampNeg = F at X' step
  have hTh : (T.setVm vm₁).heap = H := hT
  obtain ⟨f1, f2, -, -⟩ := Jvm.Free.Multi.fill_facts (T.setVm vm₁) cA cy n.toNatClampNeg k.toNatClampNeg (defaultValue ty) n.toNatClampNeg
  rw [hF, hTh] at f1 f2
  have hold : ∀ x : Nat, x < H.size → F.heap[x]? = H[x]? := fun x hx => by
    have := Jvm.Free.Multi.fill_old (T.setVm vm₁) cA cy n.toNatClampNeg k.toNatClampNeg (defaultValue ty) (a := x) (by rw [hTh]; exact hx) n.toNatClampNeg
    rw [hF, hTh] at this
    exact this
  have hrow : ∀ j : Nat, j < n.toNatClampNeg → F.heap[H.size + 1 + j]? = some (vp_cell cy z) := fun j hj => by
    have := Jvm.Free.Multi.fill_inner (T.setVm vm₁) cA cy n.toNatClampNeg k.toNatClampNeg (defaultValue ty) n.toNatClampNeg j hj
    rw [hF, hTh, hz] at this
    exact this
  have hout : Jvm.Free.Multi.outerC cA n.toNatClampNeg H.size n.toNatClampNeg = vp_cell cA (n.toNatClampNeg, .inr (.inr (.inr (.inr (fun i => if i < n.toNatClampNeg then some (H.size + 1 + i) else none))))) := by
    rw [vp_cell_q]
    exact vr_outer cA n.toNatClampNeg H.size n.toNatClampNeg
  rw [hout] at f2
  have hlt : ∀ a, a ∈ L → a < H.size := fun a ha => by
    obtain ⟨k9, hk9⟩ := va_pl_get (X := X) (f := f) ha
    exact (hP k9 _ hk9).lt
  have hnl : ∀ i : Nat, i < n.toNatClampNeg → H.size + 1 + i ∉ L := fun i _ h => by
    have := hlt _ h
    omega
  have hnm : ∀ a, a ∈ (List.range n.toNatClampNeg).map (fun i => H.size + 1 + i) → a ∉ L := fun a ha h => by
    obtain ⟨i, -, rfl⟩ := List.mem_map.mp ha
    have := hlt _ h
    omega
  have hP0 : va_P D cl (X ++ va_pl L f) F.heap := hP.kept (fun k9 x hx => hold x.1 ((hP k9 x hx).lt))
  have hP1 : va_P D cl ((X ++ va_pl L f) ++ [(H.size, .inl (cA, n.toNatClampNeg, .inr (.inr (.inr (.inr (fun i => if i < n.toNatClampNeg then some (H.size + 1 + i) else none))))))]) F.heap := hP0.app (fun k9 x hx => by
    have h0 : k9 < 1 := (List.getElem?_eq_some_iff.mp hx).1
    rw [show k9 = 0 by omega] at hx
    cases hx
    exact f2)
  have hP2 : va_P D cl (((X ++ va_pl L f) ++ [(H.size, .inl (cA, n.toNatClampNeg, .inr (.inr (.inr (.inr (fun i => if i < n.toNatClampNeg then some (H.size + 1 + i) else none))))))]) ++ ((List.range n.toNatClampNeg).map (fun i => H.size + 1 + i)).map (fun a => (a, .inl (cy, z)))) F.heap := hP1.app (fun k9 x hx => by
    obtain ⟨a, ha, rfl⟩ := List.mem_map.mp (List.mem_of_getElem? hx)
    obtain ⟨i, hi, rfl⟩ := List.mem_map.mp ha
    exact hrow i (List.mem_range.mp hi))
  have hD2 : va_D A (((X ++ va_pl L f) ++ [(H.size, .inl (cA, n.toNatClampNeg, .inr (.inr (.inr (.inr (fun i => if i < n.toNatClampNeg then some (H.size + 1 + i) else none))))))]) ++ ((List.range n.toNatClampNeg).map (fun i => H.size + 1 + i)).map (fun a => (a, .inl (cy, z)))) := by
    have hD1 := hD.push (e := .inl (cA, n.toNatClampNeg, .inr (.inr (.inr (.inr (fun i => if i < n.toNatClampNeg then some (H.size + 1 + i) else none)))))) hP rfl (hA _ hS.1)
    generalize hW1 : (X ++ va_pl L f) ++ [(H.size, .inl (cA, n.toNatClampNeg, .inr (.inr (.inr (.inr (fun i => if i < n.toNatClampNeg then some (H.size + 1 + i) else none))))))] = W1 at hD1 hP1 ⊢
    have hle : ∀ (k9 : Nat) (x : Nat × va_E), W1[k9]? = some x → x.1 ≤ H.size := fun k9 x hx => by
      rw [← hW1] at hx
      by_cases hl : k9 < (X ++ va_pl L f).length
      · rw [List.getElem?_append_left hl] at hx
        exact Nat.le_of_lt ((hP k9 x hx).lt)
      · rw [List.getElem?_append_right (by omega)] at hx
        have h0 : k9 - (X ++ va_pl L f).length < 1 := (List.getElem?_eq_some_iff.mp hx).1
        rw [show k9 - (X ++ va_pl L f).length = 0 by omega] at hx
        cases hx
        exact Nat.le_refl _
    have hr : ∀ (k9 : Nat) (x : Nat × va_E), (((List.range n.toNatClampNeg).map (fun i => H.size + 1 + i)).map (fun a => ((a, .inl (cy, z)) : Nat × va_E)))[k9]? = some x → x.1 = H.size + 1 + k9 := fun k9 x hx => by
      rw [List.getElem?_map, List.getElem?_map] at hx
      by_cases h9 : k9 < n.toNatClampNeg
      · rw [List.getElem?_range h9] at hx
        cases hx
        rfl
      · have hn0 : (List.range n.toNatClampNeg)[k9]? = none := List.getElem?_eq_none (by rw [List.length_range]; omega)
        rw [hn0] at hx
        cases hx
    refine ⟨fun i j x y hi hj hxy => ?_, fun k9 x hx => ?_⟩
    · by_cases h1 : i < W1.length <;> by_cases h2 : j < W1.length
      · rw [List.getElem?_append_left h1] at hi
        rw [List.getElem?_append_left h2] at hj
        exact hD1.1 i j x y hi hj hxy
      · rw [List.getElem?_append_left h1] at hi
        rw [List.getElem?_append_right (by omega)] at hj
        have := hle _ _ hi
        have := hr _ _ hj
        omega
      · rw [List.getElem?_append_right (by omega)] at hi
        rw [List.getElem?_append_left h2] at hj
        have := hle _ _ hj
        have := hr _ _ hi
        omega
      · rw [List.getElem?_append_right (by omega)] at hi hj
        have := hr _ _ hi
        have := hr _ _ hj
        omega
    · by_cases h1 : k9 < W1.length
      · rw [List.getElem?_append_left h1] at hx
        exact hD1.2 k9 x hx
      · rw [List.getElem?_append_right (by omega)] at hx
        have := hr _ _ hx
        exact hA _ (by have := hS.1; omega)
  have hAr : ArrOfT s cA (.array ty) := fun N9 z9 => by
    obtain ⟨-, k9, hk9, cm9, hkk9⟩ := (hO 0 0 0).1
    exact ⟨(fun q hq => by cases hq), k9, hk9, cm9, hkk9⟩
  have hK2 : va_K D cl (tys ++ [(cA, .array ty)]) s := ⟨hK.1, fun k9 x hx => by
    by_cases hl : k9 < tys.length
    · rw [List.getElem?_append_left hl] at hx
      exact hK.2 k9 x hx
    · rw [List.getElem?_append_right (by omega)] at hx
      have h0 : k9 - tys.length < 1 := (List.getElem?_eq_some_iff.mp hx).1
      rw [show k9 - tys.length = 0 by omega] at hx
      cases hx
      exact ⟨hAr, fA⟩⟩
  obtain ⟨t, a1, b1⟩ := kk H.size (fun i => H.size + 1 + i) cA F.heap (fun i j _ _ h => by have h9 : H.size + 1 + i = H.size + 1 + j := h; omega) hnl hK2 (by rw [← vr_rows hnm]; exact vr_lay hP2) (by rw [← vr_rows hnm]; exact vr_layD hD2) ⟨by rw [f1]; have := hS.1; omega, fun x h1 h2 => (hold x (Nat.lt_of_lt_of_le h1 hS.1)).trans (hS.2.1 x h1 h2), hS.2.2⟩ F rfl X'
  refine ⟨t, step t ?_, b1⟩
  have e : T.heap.size = H.size := by rw [hT]
  rw [e]
  exact a1
end VGM
/-! ===== END ===== -/

/-! ===== BEGIN exceptions that leave a method, and their catching by the caller (launches without stack traces) ===== -/
section VXA
/-! The laws vx_back, vx_callV, vx_callS, vx_callSW, vx_throw0, vx_throwS follow proofs of the library, with one case more: JvmDerived/Free/Laws.lean (Back.of_free), Shelf42/LK1.lean (callV, callS), Shelf/KitTraced.lean (throwNew0V, throwNewS). -/
/-- where a method has thrown q: the class by its name, the cell, what was written, the world -/
def vx_T (XC : String → State → State → Prop) (st : State) (q : Addr) (t : State) (mc ms : Nat) (free : Addr → Prop) : Prop :=
  ∃ (E : String) (ce : Cell) (L : List Loc), XC E st t ∧ t.heap[q]? = some ce ∧ ce.vm = .none ∧ st.vm.findClass E = some ce.cls ∧ st.WarmedH t.vm ∧ st.sameButNew ({ t with vm := st.vm } : State) L mc ms ∧ ∀ z ∈ L, free z.base
def vx_Q (Qc : Array Value → State → Outcome → State → Prop) (XC : String → State → State → Prop) (mc ms : Nat) (free : Addr → Prop) : Array Value → State → Outcome → State → Prop := fun a st o t =>
  (Qc a st o t ∧ ∃ L, FrameEnd st o t L mc ms ∧ ∀ q ∈ L, free q.base) ∨ ∃ q, o = .threw q ∧ vx_T XC st q t mc ms free
/-- a callee that returns or throws -/
def vx_Met (l : Launch) (y : MethodName) (ws : List Cond) (rm : Room) (Pc : Array Value → State → Prop) (Qc : Array Value → State → Outcome → State → Prop) (XC : String → State → State → Prop) (mc ms : Nat) (free : Addr → Prop) : Prop :=
  MetFree l y (headSpec ws rm) Pc (fun _ _ _ _ _ => True) (vx_Q Qc XC mc ms free)
def vx_Post (XC : String → State → State → Prop) (mc ms : Nat) (free : Addr → Prop) : Pt → Array Value → Addr → Pt → Prop := fun A a q B =>
  ∃ (g : JFrame) (mk : MethodId) (t : State) (L : List Loc) (E : String) (ce : Cell), B.U.heap = t.heap ∧ B.U.vm = t.vm ∧ XC E (A.U.calling g mk a) t ∧ t.heap[q]? = some ce ∧ ce.vm = .none ∧ A.U.vm.findClass E = some ce.cls ∧ B.locs = A.locs ++ L ∧ (∀ z ∈ L, free z.base) ∧ B.cells = A.cells + mc ∧ B.slots = A.slots + ms
def vx_Back (l : Launch) (R : Room) (p : Program) (e : Env) (below : List Frame) (s : State) (sargs : Array Value) (y : MethodName) (len W9 : Nat)
    (Pre : Pt → Array Value → Prop) (Post : Pt → Array Value → Option Value → Pt → Prop) (PostX : Pt → Array Value → Addr → Pt → Prop) : Prop :=
  ∀ (m : MethodId) (meth : Method) (c : Code) (A : Pt) (g : JFrame) (ig : Instr) (mk : MethodId) (a : Array Value),
    Stand p l e R s m sargs below meth c A.U A.locs A.cells A.slots → g.method = m → g.locals.size = c.maxLocals → decode c.code g.pc = .ok (ig, len) →
    2 * g.monitorRoom + (g.stack.map fun v => v.category).sum ≤ W9 → A.U.methodNamed? y = some mk → Pre A a →
    (∃ (v : Option Value) (B : Pt), Stand p l e R s m sargs below meth c B.U B.locs B.cells B.slots ∧ Post A a v B ∧
      Steps p.tables e below (doInvoke e (A.U.setTop g) [] mk a).1 (B.U.setTop { g with pc := g.pc + len, stack := v.toList ++ g.stack })) ∨
    (∃ (q : Addr) (B : Pt), Stand p l e R s m sargs below meth c B.U B.locs B.cells B.slots ∧ PostX A a q B ∧
      Steps p.tables e below (doInvoke e (A.U.setTop g) [] mk a).1 ((B.U.setTop g).pushFrame (.throwing q)))
section Payer
variable {l : Launch} {R : Room} {p : Program} {e : Env} {below : List Frame} {s : State} {sargs : Array Value} {y : MethodName} {len W9 : Nat}
theorem vx_back {ws : List Cond} {rm : Room} {Pc : Array Value → State → Prop} {Qc : Array Value → State → Outcome → State → Prop} {XC : String → State → State → Prop} {mc ms : Nat} {free : Addr → Prop} {bytes : ByteArray} {maxL : Nat} {ret : Option FieldType}
    (hM : vx_Met l y ws rm Pc Qc XC mc ms free) (hblind : FrameBlind Pc) (hrc : rm.cells = mc) (hrs : rm.slots = ms)
    (hframes : rm.frames + 1 ≤ R.frames) (hlocals : W9 + (maxL + 11) + rm.locals ≤ R.locals)
    (hws : ∀ w ∈ ws, ∀ a' U, s.WarmedH U.vm → w.before a' U = true) (hcode : Cond.code y bytes maxL ret ∈ ws) (hinit : ∀ a' U, s.WarmedH U.vm → (Cond.initialized y.cls).before a' U = true) :
    vx_Back l R p e below s sargs y len W9 (PreOf R mc ms Pc) (PostOf Qc mc ms free) (vx_Post XC mc ms free) := by
  intro m meth c A g ig mk a X hg hsize hdg hW hn hp
  have h1 : (headSpec ws rm).pre.before a A.U = true := atoms_intro fun w hw => hws w hw _ _ X.warmed
  have h2 : (Cond.code y bytes maxL ret).before a A.U = true := hws _ hcode _ _ X.warmed
  have h3 : (Cond.initialized y.cls).before a A.U = true := hinit _ _ X.warmed
  have h4 : A.cells + (headSpec ws rm).room.cells ≤ R.cells := by rw [show (headSpec ws rm).room.cells = mc from hrc]; exact hp.1
  have h5 : A.slots + (headSpec ws rm).room.slots ≤ R.slots := by rw [show (headSpec ws rm).room.slots = ms from hrs]; exact hp.2.1
  have hPc : Pc a (A.U.calling g mk a) := hblind _ _ _ _ hp.2.2
  obtain ⟨U, Ls, c0, s0⟩ := A
  dsimp only [Pt.U, Pt.locs, Pt.cells, Pt.slots] at h1 h2 h3 h4 h5 X hn hPc ⊢
  obtain ⟨methY, cY, hmY, hcY, -, hlY, -, -, -, -⟩ := Cond.code_spec hn h2
  obtain ⟨kY, hkY, -⟩ := className_of_methodNamed hn
  have hinitY : kY.init = .initialized := Cond.initialized_spec (findClass_of_methodNamed hn) hkY h3
  have h : At U g.method c below := by rw [hg]; exact X.here
  have hlocals9 : W9 + (maxL + 11) + (headSpec ws rm).room.locals ≤ R.locals := hlocals
  have happ : (headSpec ws rm).appliesLoose y e.platform (U.calling g mk a) = true :=
    Spec.appliesLoose_calling (g := g) h hdg hn hkY hinitY
      (X.room_calling (g := g) (R' := (headSpec ws rm).room) hsize hmY hcY hframes (by rw [hlY]; omega) h4 h5) h1
  obtain ⟨mid, hmid⟩ := h.above
  have hfr : (U.setTop g).frames = (.java g :: mid) ++ below := by rw [State.frames_setTop' g h.top, hmid]; rfl
  obtain ⟨o, s₂, hsteps, -, hend, hq⟩ := Steps.callFree hM p X.admits X.cas X.clock (acts := []) hfr happ hPc trivial
  have hq' : vx_Q Qc XC mc ms free a (U.calling g mk a) o s₂ := hq
  rw [State.frames_setTop' g h.top] at hend
  obtain ⟨g₀, hg0⟩ := Option.isSome_iff_exists.mp h.top
  obtain ⟨r, hr⟩ := State.topJava?_eq_some.mp hg0
  have hr' : (({ U with heap := s₂.heap, slotsUsed := s₂.slotsUsed } : State).setVm s₂.vm).frames = .java g₀ :: r := hr
  rcases hq' with ⟨hqc, L, hfe, hL⟩ | ⟨q, rfl, E, ce, L, hx, hce, hcv, hcl, hW₂, hsm, hL⟩
  · obtain ⟨⟨v, rfl⟩, hW₂, e2, q2, q3, q4, q5, q6⟩ := id hfe
    have e3 : s₂ = ({ (U.calling g mk a).setFrames s₂.frames with heap := s₂.heap, slotsUsed := s₂.slotsUsed } : State).setVm s₂.vm := by
      have : s₂ = ({ s₂ with vm := (U.calling g mk a).vm } : State).setVm s₂.vm := rfl
      rw [e2] at this
      exact this
    obtain ⟨c₂, i₂, len₂, hc₂, hd₂, hf₂⟩ := hend
    have hW' : U.WarmedH s₂.vm := hW₂
    have hcc : c₂ = c := by
      have h1 : s₂.code? g.method = U.code? g.method := by
        rw [State.code?_eq, State.code?_eq, hW'.alike.method?]
      exact Option.some.inj (hc₂.symm.trans (h1.trans h.code))
    subst hcc
    have hlen : len₂ = len := by rw [hdg] at hd₂; cases hd₂; rfl
    subst hlen
    have hs₂ : s₂ = (({ U with heap := s₂.heap, slotsUsed := s₂.slotsUsed } : State).setVm s₂.vm).setTop { g with pc := g.pc + len₂, stack := v.toList ++ g.stack } := by
      refine e3.trans ?_
      rw [hf₂, State.calling_eq h.top, State.setFrames_setFrames, State.setTop_of_frames _ hr', hr]
      rfl
    have hsame : U.sameButNew ({ U with heap := s₂.heap, slotsUsed := s₂.slotsUsed } : State) L mc ms := by
      refine ⟨?_, q2, q3, q4, q5, q6⟩
      obtain ⟨t, ht, -⟩ := State.frames_cons hr
      show ({ U with heap := s₂.heap, slotsUsed := s₂.slotsUsed } : State) = { U.setFrames U.frames with heap := s₂.heap, slotsUsed := s₂.slotsUsed }
      rw [State.setFrames_self ht]
    subst hg
    refine Or.inl ⟨v, ⟨(({ U with heap := s₂.heap, slotsUsed := s₂.slotsUsed } : State).setVm s₂.vm), Ls ++ L, c0 + mc, s0 + ms⟩,
      ⟨X.admits, X.cas, X.clock, X.frames, X.room, X.hears, X.method, X.code, (X.here.setHeapUsed s₂.heap s₂.slotsUsed).setVm hW'.alike, X.tail, State.WarmedH.trans X.warmed hW', X.limits, X.bytes, X.same.trans (hsame.setVm s.vm)⟩,
      ⟨g, mk, s₂, L, rfl, rfl, hqc, rfl, hL, rfl, rfl⟩, ?_⟩
    show Steps p.tables e below _ ((({ U with heap := s₂.heap, slotsUsed := s₂.slotsUsed } : State).setVm s₂.vm).setTop { g with pc := g.pc + len₂, stack := v.toList ++ g.stack })
    rw [← hs₂]
    exact hsteps
  · obtain ⟨e2, q2, q3, q4, q5, q6⟩ := id hsm
    have e3 : s₂ = ({ (U.calling g mk a).setFrames s₂.frames with heap := s₂.heap, slotsUsed := s₂.slotsUsed } : State).setVm s₂.vm := by
      have : s₂ = ({ s₂ with vm := (U.calling g mk a).vm } : State).setVm s₂.vm := rfl
      rw [e2] at this
      exact this
    have hf₂ : s₂.frames = .throwing q :: .java g :: U.frames.tail := hend
    have hW' : U.WarmedH s₂.vm := hW₂
    have hs₂ : s₂ = ((({ U with heap := s₂.heap, slotsUsed := s₂.slotsUsed } : State).setVm s₂.vm).setTop g).pushFrame (.throwing q) := by
      refine e3.trans ?_
      rw [hf₂, State.calling_eq h.top, State.setFrames_setFrames, State.pushFrame, State.frames_setTop _ hr', State.setTop_of_frames _ hr', State.setFrames_setFrames, hr]
      rfl
    have hsame : U.sameButNew ({ U with heap := s₂.heap, slotsUsed := s₂.slotsUsed } : State) L mc ms := by
      refine ⟨?_, q2, q3, q4, q5, q6⟩
      obtain ⟨t, ht, -⟩ := State.frames_cons hr
      show ({ U with heap := s₂.heap, slotsUsed := s₂.slotsUsed } : State) = { U.setFrames U.frames with heap := s₂.heap, slotsUsed := s₂.slotsUsed }
      rw [State.setFrames_self ht]
    subst hg
    refine Or.inr ⟨q, ⟨(({ U with heap := s₂.heap, slotsUsed := s₂.slotsUsed } : State).setVm s₂.vm), Ls ++ L, c0 + mc, s0 + ms⟩,
      ⟨X.admits, X.cas, X.clock, X.frames, X.room, X.hears, X.method, X.code, (X.here.setHeapUsed s₂.heap s₂.slotsUsed).setVm hW'.alike, X.tail, State.WarmedH.trans X.warmed hW', X.limits, X.bytes, X.same.trans (hsame.setVm s.vm)⟩,
      ⟨g, mk, s₂, L, E, ce, rfl, rfl, hx, hce, hcv, hcl, rfl, hL, rfl, rfl⟩, ?_⟩
    show Steps p.tables e below _ (((({ U with heap := s₂.heap, slotsUsed := s₂.slotsUsed } : State).setVm s₂.vm).setTop g).pushFrame (.throwing q))
    rw [← hs₂]
    exact hsteps
end Payer
section Calls
variable {p : Program} {l : Launch} {e : Env} {R : Room} {s : State} {m : MethodId} {args : Array Value} {below : List Frame} {meth : Method} {c : Code} {T : State} {locs : List Loc} {cells slots : Nat}
theorem vx_callV (X : Stand p l e R s m args below meth c T locs cells slots) (hexec : p.tables.exec = Jvm.exec) {own C : String} {index : Nat} {y : MethodName} {bytes : ByteArray} {maxL : Nat} {ret : Option FieldType}
    (hown : s.vm.findClass own = some m.cls) (hlink : (Cond.methodLink own index y).before args s = true) (hinst : (Cond.instanceMethod y).before args s = true) (hsel : (Cond.selects C y y).before args s = true)
    (hcode : (Cond.code y bytes maxL ret).before args s = true) (hy : y.cls ≠ "java/lang/invoke/MethodHandle" ∧ y.cls ≠ "java/lang/invoke/VarHandle")
    {W9 : Nat} {Pre : Pt → Array Value → Prop} {Post : Pt → Array Value → Option Value → Pt → Prop} {PostX : Pt → Array Value → Addr → Pt → Prop} (hK : vx_Back l R p e below s args y 3 W9 Pre Post PostX)
    {b : Addr} {cellB : Cell} (hcell : T.heap[b]? = some cellB) (hobj : cellB.vm.isStatics = false) (hcls : s.vm.findClass C = some cellB.cls)
    {g : JFrame} (hg : g.method = m) (hsize : g.locals.size = c.maxLocals) {argsL rest : List Value} (hlen : ∀ sig, parseMethodDescriptor y.desc = some sig → argsL.length = sig.parameters.length)
    (hstack : g.stack = argsL.reverse ++ .ref b :: rest) (hW : 2 * g.monitorRoom + (rest.map fun v => v.category).sum ≤ W9) (hdg : decode c.code g.pc = .ok (.invokevirtual index, 3))
    (hpre : ∀ vm₁, s.WarmedH vm₁ → Pre ⟨T.setVm vm₁, locs, cells, slots⟩ (Value.ref b :: argsL).toArray) :
    (∃ (v : Option Value) (vm₁ : Vm) (B : Pt), s.WarmedH vm₁ ∧ Stand p l e R s m args below meth c B.U B.locs B.cells B.slots ∧ Post ⟨T.setVm vm₁, locs, cells, slots⟩ (Value.ref b :: argsL).toArray v B ∧
      ∀ target, Steps p.tables e below (B.U.setTop { g with pc := g.pc + 3, stack := v.toList ++ rest }) target → Steps p.tables e below (T.setTop g) target) ∨
    (∃ (q : Addr) (vm₁ : Vm) (B : Pt), s.WarmedH vm₁ ∧ Stand p l e R s m args below meth c B.U B.locs B.cells B.slots ∧ PostX ⟨T.setVm vm₁, locs, cells, slots⟩ (Value.ref b :: argsL).toArray q B ∧
      Steps p.tables e below (T.setTop g) ((B.U.setTop { g with stack := rest }).pushFrame (.throwing q))) := by
  obtain ⟨mk, methM, hnamed, hmethM, hstM, habM⟩ := Cond.instanceMethod_spec hinst
  obtain ⟨methM', cM, hmethM', -, -, -, -, -, -, hsigM⟩ := Cond.code_spec hnamed hcode
  cases hmethM.symm.trans hmethM'
  obtain ⟨c2, r2, m2, q1, q2, q3, q4, kP, hkP, hkPi⟩ := Cond.selects_spec hsel
  cases hcls.symm.trans q1
  cases (State.methodFound?_of_named hnamed hy).symm.trans q2
  cases hnamed.symm.trans q3
  have hselP : selectMethod e.platform s.vm cellB.cls mk = .method mk := by rw [Launch.admits_selectMethod X.admits]; exact q4
  obtain ⟨vm₁, X₁, hstep₁⟩ := X.invokevirtual hexec hown hlink hnamed hmethM hstM hkP hkPi hy (a := b) (cell := cellB) hcell
    (fun z h => by rw [h] at hobj; cases hobj) hselP hmethM habM hkP hkPi (g := g) hg (argsL := argsL) (rest := rest) (hlen _ hsigM) hstack hdg
  rcases hK m meth c ⟨T.setVm vm₁, locs, cells, slots⟩ { g with stack := rest } (.invokevirtual index) mk (Value.ref b :: argsL).toArray X₁ hg hsize hdg hW (X₁.named hnamed) (hpre vm₁ X₁.warmed) with ⟨v, B, X', hpost, hsteps⟩ | ⟨q, B, X', hpost, hsteps⟩
  · exact Or.inl ⟨v, vm₁, B, X₁.warmed, X', hpost, fun target h => hstep₁ _ fun acts => by rw [doInvoke_state]; exact hsteps.trans h⟩
  · exact Or.inr ⟨q, vm₁, B, X₁.warmed, X', hpost, hstep₁ _ fun acts => by rw [doInvoke_state]; exact hsteps⟩
theorem vx_callS (X : Stand p l e R s m args below meth c T locs cells slots) (hexec : p.tables.exec = Jvm.exec) {own : String} {index : Nat} {y : MethodName} {bytes : ByteArray} {maxL : Nat} {ret : Option FieldType}
    (hown : s.vm.findClass own = some m.cls) (hlink : (Cond.methodLink own index y).before args s = true) (hstat : (Cond.static y).before args s = true) (hinit : (Cond.initialized y.cls).before args s = true)
    (hcode : (Cond.code y bytes maxL ret).before args s = true) (hy : y.cls ≠ "java/lang/invoke/MethodHandle" ∧ y.cls ≠ "java/lang/invoke/VarHandle")
    {W9 : Nat} {Pre : Pt → Array Value → Prop} {Post : Pt → Array Value → Option Value → Pt → Prop} {PostX : Pt → Array Value → Addr → Pt → Prop} (hK : vx_Back l R p e below s args y 3 W9 Pre Post PostX)
    {g : JFrame} (hg : g.method = m) (hsize : g.locals.size = c.maxLocals) {argsL rest : List Value} (hlen : ∀ sig, parseMethodDescriptor y.desc = some sig → argsL.length = sig.parameters.length)
    (hstack : g.stack = argsL.reverse ++ rest) (hW : 2 * g.monitorRoom + (rest.map fun v => v.category).sum ≤ W9) (hdg : decode c.code g.pc = .ok (.invokestatic index, 3))
    (hpre : ∀ vm₁, s.WarmedH vm₁ → Pre ⟨T.setVm vm₁, locs, cells, slots⟩ argsL.toArray) :
    (∃ (v : Option Value) (vm₁ : Vm) (B : Pt), s.WarmedH vm₁ ∧ Stand p l e R s m args below meth c B.U B.locs B.cells B.slots ∧ Post ⟨T.setVm vm₁, locs, cells, slots⟩ argsL.toArray v B ∧
      ∀ target, Steps p.tables e below (B.U.setTop { g with pc := g.pc + 3, stack := v.toList ++ rest }) target → Steps p.tables e below (T.setTop g) target) ∨
    (∃ (q : Addr) (vm₁ : Vm) (B : Pt), s.WarmedH vm₁ ∧ Stand p l e R s m args below meth c B.U B.locs B.cells B.slots ∧ PostX ⟨T.setVm vm₁, locs, cells, slots⟩ argsL.toArray q B ∧
      Steps p.tables e below (T.setTop g) ((B.U.setTop { g with stack := rest }).pushFrame (.throwing q))) := by
  obtain ⟨mk, hnamed⟩ := Cond.code_named hcode
  obtain ⟨methM, cM, hmethM, -, -, -, -, -, -, hsigM⟩ := Cond.code_spec hnamed hcode
  have hstatic : methM.isStatic = true := Cond.static_spec hnamed hmethM hstat
  obtain ⟨kP, hkP, -⟩ := className_of_methodNamed hnamed
  have hinitP : kP.init = .initialized := Cond.initialized_spec (findClass_of_methodNamed hnamed) hkP hinit
  obtain ⟨vm₁, X₁, hstep₁⟩ := X.invokestatic hexec hown hlink hnamed hmethM hstatic hkP hinitP hy (g := g) hg (argsL := argsL) (rest := rest) (hlen _ hsigM) hstack hdg
  rcases hK m meth c ⟨T.setVm vm₁, locs, cells, slots⟩ { g with stack := rest } (.invokestatic index) mk argsL.toArray X₁ hg hsize hdg hW (X₁.named hnamed) (hpre vm₁ X₁.warmed) with ⟨v, B, X', hpost, hsteps⟩ | ⟨q, B, X', hpost, hsteps⟩
  · exact Or.inl ⟨v, vm₁, B, X₁.warmed, X', hpost, fun target h => hstep₁ _ fun acts => by rw [doInvoke_state]; exact hsteps.trans h⟩
  · exact Or.inr ⟨q, vm₁, B, X₁.warmed, X', hpost, hstep₁ _ fun acts => by rw [doInvoke_state]; exact hsteps⟩
end Calls
theorem vx_cls {s : State} {T : State} {vm₁ : Vm} {E : String} {k : ClassId} (hW : s.WarmedH vm₁) (h : (T.setVm vm₁).vm.findClass E = some k) : s.vm.findClass E = some k := by
  have h1 : vm₁.findClass E = some k := h
  rw [hW.alike.findClass] at h1
  exact h1
/-- the method's frame g, with q thrown over it -/
def vx_W (p : Program) (l : Launch) (e : Env) (R : Room) (s : State) (m : MethodId) (args : Array Value) (below : List Frame) (meth : Method) (c : Code) (H : Heap) (locs : List Loc) (cells slots : Nat) (Q : State → Prop) (g : JFrame) (q : Addr) : Prop :=
  ∀ T : State, T.heap = H → Stand p l e R s m args below meth c T locs cells slots → ∃ t, Steps p.tables e below ((T.setTop g).pushFrame (.throwing q)) t ∧ Q t
def vx_Run (p : Program) (l : Launch) (e : Env) (R : Room) (s : State) (m : MethodId) (args : Array Value) (below : List Frame) (meth : Method) (c : Code) (H : Heap) (locs : List Loc) (cells slots mc ms : Nat) (g : JFrame) (rest : List Value) (Qa : State → Outcome → State → Prop) (XC : String → State → State → Prop) (free : Addr → Prop) : Prop :=
  ∀ T : State, T.heap = H → Stand p l e R s m args below meth c T locs cells slots →
    (∃ (v : Option Value) (st₀ t T' : State) (L : List Loc), st₀.heap = H ∧ Stand p l e R s m args below meth c T' (locs ++ L) (cells + mc) (slots + ms) ∧ (∀ q ∈ L, free q.base) ∧ T'.heap = t.heap ∧ T'.vm = t.vm ∧ Qa st₀ (.returned v) t ∧
      Goes p e below T g T' { g with pc := g.pc + 3, stack := v.toList ++ rest }) ∨
    (∃ (q : Addr) (st₀ t T' : State) (L : List Loc) (E : String) (ce : Cell), st₀.heap = H ∧ Stand p l e R s m args below meth c T' (locs ++ L) (cells + mc) (slots + ms) ∧ (∀ z ∈ L, free z.base) ∧ T'.heap = t.heap ∧ T'.vm = t.vm ∧ XC E st₀ t ∧ t.heap[q]? = some ce ∧ ce.vm = .none ∧ s.vm.findClass E = some ce.cls ∧
      Steps p.tables e below (T.setTop g) ((T'.setTop { g with stack := rest }).pushFrame (.throwing q)))
def vx_X {S : Type} (px : S → Prop) (B : String → S → State → Prop) (A : Nat → Prop) : String → State → State → Prop := fun E st t => ∃ u : S, px u ∧ B E u t ∧ va_F A st t
section Runs
variable {p : Program} {l : Launch} {e : Env} {R : Room} {s : State} {m : MethodId} {args : Array Value} {below : List Frame} {meth : Method} {c : Code} {H : Heap} {locs : List Loc} {cells slots : Nat}
variable {y : MethodName} {bytes cc : ByteArray} {maxL nL mc ms n index : Nat} {ret : Option FieldType} {ws : List Cond} {rm : Room} {Pc : Array Value → State → Prop} {Qc : Array Value → State → Outcome → State → Prop} {XC : String → State → State → Prop} {free : Addr → Prop} {Ts : List Cond} {own C : String} {b : Addr} {As rest : List Value} {g : JFrame}
theorem vx_callBack (cb : CallB R s args own index y bytes maxL ret ws rm mc ms n) (hM : vx_Met l y ws rm Pc Qc XC mc ms free) (hbl : FrameBlind Pc) : vx_Back l R p e below s args y 3 8 (PreOf R mc ms Pc) (PostOf Qc mc ms free) (vx_Post XC mc ms free) := by
  obtain ⟨hrc, hrs, hfr, hlo, hws, hcw, -, hini, -⟩ := cb
  exact vx_back (bytes := bytes) (maxL := maxL) (ret := ret) hM hbl hrc hrs hfr hlo hws hcw (fun a' U hW => word_at hW (Or.inl (by first | rfl | simp [Cond.onTables, Cond.keeps, Cond.steady])) hini)
theorem vx_runV (S : CallFix p m c cc nL s args Ts own) (hM : vx_Met l y ws rm Pc Qc XC mc ms free) (cw : CallW R s args own C index y bytes maxL ret ws rm mc ms n) (hp : PreV s H C b Pc As)
    (hg : g.method = m) (hn : As.length = n) (hsize : g.locals.size = nL) (hstack : g.stack = As.reverse ++ .ref b :: rest) (hW : 2 * g.monitorRoom + (rest.map fun v => v.category).sum ≤ 8) (hdg : decode cc g.pc = .ok (.invokevirtual index, 3)) (hf : cells + mc ≤ R.cells ∧ slots + ms ≤ R.slots) :
    vx_Run p l e R s m args below meth c H locs cells slots mc ms g rest (Qc (Value.ref b :: As).toArray) XC free := by
  have hK : vx_Back l R p e below s args y 3 8 (PreOf R mc ms Pc) (PostOf Qc mc ms free) (vx_Post XC mc ms free) := vx_callBack cw.1 hM hp.1
  obtain ⟨⟨-, -, -, -, -, -, hcode, -, hy, hlen, hl⟩, hin, hse⟩ := cw
  obtain ⟨hx, hb, hml, ho, -⟩ := S
  obtain ⟨-, ⟨cellB, hcB, hoB, hclB⟩, hPc⟩ := hp
  intro T hT X
  rcases vx_callV X hx (C := C) (bytes := bytes) (maxL := maxL) (ret := ret) ho hl hin hse hcode hy hK (by rw [hT]; exact hcB) hoB hclB hg (hsize.trans hml.symm) (argsL := As) (rest := rest) (fun sig h => hn.trans (hlen sig h)) hstack hW (by rw [hb]; exact hdg)
    (fun vm₁ hW₁ => ⟨hf.1, hf.2, hPc (T.setVm vm₁) hT hW₁⟩) with ⟨v, vm₁, ⟨U', l2, c2, s2⟩, hW₁, X', ⟨g', mk, t, L, e1, e2, hq, h1, hL, h2, h3⟩, st⟩ | ⟨q, vm₁, ⟨U', l2, c2, s2⟩, hW₁, X', ⟨g', mk, t, L, E, ce, e1, e2, hq, hce, hcv, hcl, h1, hL, h2, h3⟩, st⟩
  · dsimp only [Pt.U, Pt.locs, Pt.cells, Pt.slots] at X' e1 e2 h1 h2 h3 st
    subst h1; subst h2; subst h3
    exact Or.inl ⟨v, (T.setVm vm₁).calling g' mk (Value.ref b :: As).toArray, t, U', L, hT, X', hL, e1, e2, hq, st⟩
  · dsimp only [Pt.U, Pt.locs, Pt.cells, Pt.slots] at X' e1 e2 h1 h2 h3 st hcl
    subst h1; subst h2; subst h3
    exact Or.inr ⟨q, (T.setVm vm₁).calling g' mk (Value.ref b :: As).toArray, t, U', L, E, ce, hT, X', hL, e1, e2, hq, hce, hcv, vx_cls hW₁ hcl, st⟩
theorem vx_runS (S : CallFix p m c cc nL s args Ts own) (hM : vx_Met l y ws rm Pc Qc XC mc ms free) (cw : CallB R s args own index y bytes maxL ret ws rm mc ms n ∧ (Cond.static y).before args s = true) (hp : PreS s H Pc As)
    (hg : g.method = m) (hn : As.length = n) (hsize : g.locals.size = nL) (hstack : g.stack = As.reverse ++ rest) (hW : 2 * g.monitorRoom + (rest.map fun v => v.category).sum ≤ 8) (hdg : decode cc g.pc = .ok (.invokestatic index, 3)) (hf : cells + mc ≤ R.cells ∧ slots + ms ≤ R.slots) :
    vx_Run p l e R s m args below meth c H locs cells slots mc ms g rest (Qc As.toArray) XC free := by
  have hK : vx_Back l R p e below s args y 3 8 (PreOf R mc ms Pc) (PostOf Qc mc ms free) (vx_Post XC mc ms free) := vx_callBack cw.1 hM hp.1
  obtain ⟨⟨-, -, -, -, -, -, hcode, hini, hy, hlen, hl⟩, hstt⟩ := cw
  obtain ⟨hx, hb, hml, ho, -⟩ := S
  intro T hT X
  rcases vx_callS X hx (bytes := bytes) (maxL := maxL) (ret := ret) ho hl hstt hini hcode hy hK hg (hsize.trans hml.symm) (argsL := As) (rest := rest) (fun sig h => hn.trans (hlen sig h)) hstack hW (by rw [hb]; exact hdg)
    (fun vm₁ hW₁ => ⟨hf.1, hf.2, hp.2 (T.setVm vm₁) hT hW₁⟩) with ⟨v, vm₁, ⟨U', l2, c2, s2⟩, hW₁, X', ⟨g', mk, t, L, e1, e2, hq, h1, hL, h2, h3⟩, st⟩ | ⟨q, vm₁, ⟨U', l2, c2, s2⟩, hW₁, X', ⟨g', mk, t, L, E, ce, e1, e2, hq, hce, hcv, hcl, h1, hL, h2, h3⟩, st⟩
  · dsimp only [Pt.U, Pt.locs, Pt.cells, Pt.slots] at X' e1 e2 h1 h2 h3 st
    subst h1; subst h2; subst h3
    exact Or.inl ⟨v, (T.setVm vm₁).calling g' mk As.toArray, t, U', L, hT, X', hL, e1, e2, hq, st⟩
  · dsimp only [Pt.U, Pt.locs, Pt.cells, Pt.slots] at X' e1 e2 h1 h2 h3 st hcl
    subst h1; subst h2; subst h3
    exact Or.inr ⟨q, (T.setVm vm₁).calling g' mk As.toArray, t, U', L, E, ce, hT, X', hL, e1, e2, hq, hce, hcv, vx_cls hW₁ hcl, st⟩
end Runs
section Rows
variable {p : Program} {l : Launch} {e : Env} {R : Room} {s : State} {m : MethodId} {args : Array Value} {below : List Frame} {meth : Method} {c : Code} {H : Heap} {locs : List Loc} {cells slots : Nat} {Q : State → Prop}
variable {mc ms : Nat} {free : Addr → Prop} {A0 A1 : Nat → Prop} {H0 : Heap} {a : Array Value} {pc : Nat} {ls : Array Slot} {st0 rest : List Value}
theorem vx_keep {st₀ t T' : State} {L : List Loc} (h0 : st₀.heap = H) (e1 : T'.heap = t.heap) (hS : va_S A0 H0 H locs) (hA : ∀ q, q < H.size → A1 q → A0 q) (hf : ∀ q, free q → A0 q) (hL : ∀ q ∈ L, free q.base) (hF : va_F A1 st₀ t) :
    H.size ≤ T'.heap.size ∧ (∀ q : Nat, q < H.size → ¬ A1 q → T'.heap[q]? = H[q]?) ∧ va_S A0 H0 T'.heap (locs ++ L) := by
  obtain ⟨hz, hk⟩ := hF
  rw [h0] at hz hk
  exact ⟨by rw [e1]; exact hz, fun q h1 h2 => by rw [e1]; exact hk q h1 h2,
    ⟨Nat.le_trans hS.1 (by rw [e1]; exact hz), fun q h1 h2 => by rw [e1, hk q (Nat.lt_of_lt_of_le h1 hS.1) (fun z => h2 (hA q (Nat.lt_of_lt_of_le h1 hS.1) z))]; exact hS.2.1 q h1 h2, fun q hq => by
      rcases List.mem_append.mp hq with h | h
      · exact hS.2.2 q h
      · exact hf _ (hL q h)⟩⟩
theorem vx_calli {S SX : Type} {post : Int32 → S → Prop} {px : SX → Prop} {B : S → State → Prop} {BX : String → SX → State → Prop} {AX : Nat → Prop} (hr : vx_Run p l e R s m args below meth c H locs cells slots mc ms (F0 m pc ls st0) rest (va_Qi post B A1 a) (vx_X px BX AX) free) (hS : va_S A0 H0 H locs) (hA : ∀ q, q < H.size → A1 q → A0 q) (hf : ∀ q, free q → A0 q) (hAX : ∀ q, q < H.size → AX q → A0 q)
    (kx : ∀ (E : String) (ce : Cell) (q9 : Addr) (u : SX) (t : State) (H1 : Heap) (locs1 : List Loc), t.heap = H1 → s.vm.Alike t.vm → px u → BX E u t → H.size ≤ H1.size → (∀ q : Nat, q < H.size → ¬ AX q → H1[q]? = H[q]?) → va_S A0 H0 H1 locs1 → H1[q9]? = some ce → ce.vm = .none → s.vm.findClass E = some ce.cls → vx_W p l e R s m args below meth c H1 locs1 (cells + mc) (slots + ms) Q (F0 m pc ls rest) q9)
    (kk : ∀ (r : Int32) (u : S) (t : State) (H1 : Heap) (locs1 : List Loc), t.heap = H1 → s.vm.Alike t.vm → post r u → B u t → H.size ≤ H1.size → (∀ q : Nat, q < H.size → ¬ A1 q → H1[q]? = H[q]?) → va_S A0 H0 H1 locs1 → W p l e R s m args below meth c H1 locs1 (cells + mc) (slots + ms) Q (F0 m (pc + 3) ls (.int r :: rest))) : W p l e R s m args below meth c H locs cells slots Q (F0 m pc ls st0) := by
  intro T hT X
  rcases hr T hT X with ⟨v, st₀, t, T', L, h0, X', hL, e1, e2, ⟨⟨r, u, hv, hp, hb⟩, hF⟩, st⟩ | ⟨q, st₀, t, T', L, E, ce, h0, X', hL, e1, e2, ⟨u, hp, hb, hF⟩, hce, hcv, hcl, st⟩
  · cases hv
    obtain ⟨k1, k2, k3⟩ := vx_keep h0 e1 hS hA hf hL hF
    obtain ⟨t2, a1, b1⟩ := kk r u t T'.heap (locs ++ L) e1.symm (by rw [← e2]; exact X'.warmed.alike) hp hb k1 k2 k3 T' rfl X'
    exact ⟨t2, st t2 a1, b1⟩
  · obtain ⟨k1, k2, k3⟩ := vx_keep h0 e1 hS hAX hf hL hF
    obtain ⟨t2, a1, b1⟩ := kx E ce q u t T'.heap (locs ++ L) e1.symm (by rw [← e2]; exact X'.warmed.alike) hp hb k1 k2 k3 (by rw [e1]; exact hce) hcv hcl T' rfl X'
    exact ⟨t2, st.trans a1, b1⟩
theorem vx_calll {S SX : Type} {post : Int64 → S → Prop} {px : SX → Prop} {B : S → State → Prop} {BX : String → SX → State → Prop} {AX : Nat → Prop} (hr : vx_Run p l e R s m args below meth c H locs cells slots mc ms (F0 m pc ls st0) rest (va_Ql post B A1 a) (vx_X px BX AX) free) (hS : va_S A0 H0 H locs) (hA : ∀ q, q < H.size → A1 q → A0 q) (hf : ∀ q, free q → A0 q) (hAX : ∀ q, q < H.size → AX q → A0 q)
    (kx : ∀ (E : String) (ce : Cell) (q9 : Addr) (u : SX) (t : State) (H1 : Heap) (locs1 : List Loc), t.heap = H1 → s.vm.Alike t.vm → px u → BX E u t → H.size ≤ H1.size → (∀ q : Nat, q < H.size → ¬ AX q → H1[q]? = H[q]?) → va_S A0 H0 H1 locs1 → H1[q9]? = some ce → ce.vm = .none → s.vm.findClass E = some ce.cls → vx_W p l e R s m args below meth c H1 locs1 (cells + mc) (slots + ms) Q (F0 m pc ls rest) q9)
    (kk : ∀ (r : Int64) (u : S) (t : State) (H1 : Heap) (locs1 : List Loc), t.heap = H1 → s.vm.Alike t.vm → post r u → B u t → H.size ≤ H1.size → (∀ q : Nat, q < H.size → ¬ A1 q → H1[q]? = H[q]?) → va_S A0 H0 H1 locs1 → W p l e R s m args below meth c H1 locs1 (cells + mc) (slots + ms) Q (F0 m (pc + 3) ls (.long r :: rest))) : W p l e R s m args below meth c H locs cells slots Q (F0 m pc ls st0) := by
  intro T hT X
  rcases hr T hT X with ⟨v, st₀, t, T', L, h0, X', hL, e1, e2, ⟨⟨r, u, hv, hp, hb⟩, hF⟩, st⟩ | ⟨q, st₀, t, T', L, E, ce, h0, X', hL, e1, e2, ⟨u, hp, hb, hF⟩, hce, hcv, hcl, st⟩
  · cases hv
    obtain ⟨k1, k2, k3⟩ := vx_keep h0 e1 hS hA hf hL hF
    obtain ⟨t2, a1, b1⟩ := kk r u t T'.heap (locs ++ L) e1.symm (by rw [← e2]; exact X'.warmed.alike) hp hb k1 k2 k3 T' rfl X'
    exact ⟨t2, st t2 a1, b1⟩
  · obtain ⟨k1, k2, k3⟩ := vx_keep h0 e1 hS hAX hf hL hF
    obtain ⟨t2, a1, b1⟩ := kx E ce q u t T'.heap (locs ++ L) e1.symm (by rw [← e2]; exact X'.warmed.alike) hp hb k1 k2 k3 (by rw [e1]; exact hce) hcv hcl T' rfl X'
    exact ⟨t2, st.trans a1, b1⟩
theorem vx_callf {S SX : Type} {post : UInt32 → S → Prop} {px : SX → Prop} {B : S → State → Prop} {BX : String → SX → State → Prop} {AX : Nat → Prop} (hr : vx_Run p l e R s m args below meth c H locs cells slots mc ms (F0 m pc ls st0) rest (va_Qf post B A1 a) (vx_X px BX AX) free) (hS : va_S A0 H0 H locs) (hA : ∀ q, q < H.size → A1 q → A0 q) (hf : ∀ q, free q → A0 q) (hAX : ∀ q, q < H.size → AX q → A0 q)
    (kx : ∀ (E : String) (ce : Cell) (q9 : Addr) (u : SX) (t : State) (H1 : Heap) (locs1 : List Loc), t.heap = H1 → s.vm.Alike t.vm → px u → BX E u t → H.size ≤ H1.size → (∀ q : Nat, q < H.size → ¬ AX q → H1[q]? = H[q]?) → va_S A0 H0 H1 locs1 → H1[q9]? = some ce → ce.vm = .none → s.vm.findClass E = some ce.cls → vx_W p l e R s m args below meth c H1 locs1 (cells + mc) (slots + ms) Q (F0 m pc ls rest) q9)
    (kk : ∀ (r : UInt32) (u : S) (t : State) (H1 : Heap) (locs1 : List Loc), t.heap = H1 → s.vm.Alike t.vm → post r u → B u t → H.size ≤ H1.size → (∀ q : Nat, q < H.size → ¬ A1 q → H1[q]? = H[q]?) → va_S A0 H0 H1 locs1 → W p l e R s m args below meth c H1 locs1 (cells + mc) (slots + ms) Q (F0 m (pc + 3) ls (.float r :: rest))) : W p l e R s m args below meth c H locs cells slots Q (F0 m pc ls st0) := by
  intro T hT X
  rcases hr T hT X with ⟨v, st₀, t, T', L, h0, X', hL, e1, e2, ⟨⟨r, u, hv, hp, hb⟩, hF⟩, st⟩ | ⟨q, st₀, t, T', L, E, ce, h0, X', hL, e1, e2, ⟨u, hp, hb, hF⟩, hce, hcv, hcl, st⟩
  · cases hv
    obtain ⟨k1, k2, k3⟩ := vx_keep h0 e1 hS hA hf hL hF
    obtain ⟨t2, a1, b1⟩ := kk r u t T'.heap (locs ++ L) e1.symm (by rw [← e2]; exact X'.warmed.alike) hp hb k1 k2 k3 T' rfl X'
    exact ⟨t2, st t2 a1, b1⟩
  · obtain ⟨k1, k2, k3⟩ := vx_keep h0 e1 hS hAX hf hL hF
    obtain ⟨t2, a1, b1⟩ := kx E ce q u t T'.heap (locs ++ L) e1.symm (by rw [← e2]; exact X'.warmed.alike) hp hb k1 k2 k3 (by rw [e1]; exact hce) hcv hcl T' rfl X'
    exact ⟨t2, st.trans a1, b1⟩
theorem vx_calld {S SX : Type} {post : UInt64 → S → Prop} {px : SX → Prop} {B : S → State → Prop} {BX : String → SX → State → Prop} {AX : Nat → Prop} (hr : vx_Run p l e R s m args below meth c H locs cells slots mc ms (F0 m pc ls st0) rest (va_Qd post B A1 a) (vx_X px BX AX) free) (hS : va_S A0 H0 H locs) (hA : ∀ q, q < H.size → A1 q → A0 q) (hf : ∀ q, free q → A0 q) (hAX : ∀ q, q < H.size → AX q → A0 q)
    (kx : ∀ (E : String) (ce : Cell) (q9 : Addr) (u : SX) (t : State) (H1 : Heap) (locs1 : List Loc), t.heap = H1 → s.vm.Alike t.vm → px u → BX E u t → H.size ≤ H1.size → (∀ q : Nat, q < H.size → ¬ AX q → H1[q]? = H[q]?) → va_S A0 H0 H1 locs1 → H1[q9]? = some ce → ce.vm = .none → s.vm.findClass E = some ce.cls → vx_W p l e R s m args below meth c H1 locs1 (cells + mc) (slots + ms) Q (F0 m pc ls rest) q9)
    (kk : ∀ (r : UInt64) (u : S) (t : State) (H1 : Heap) (locs1 : List Loc), t.heap = H1 → s.vm.Alike t.vm → post r u → B u t → H.size ≤ H1.size → (∀ q : Nat, q < H.size → ¬ A1 q → H1[q]? = H[q]?) → va_S A0 H0 H1 locs1 → W p l e R s m args below meth c H1 locs1 (cells + mc) (slots + ms) Q (F0 m (pc + 3) ls (.double r :: rest))) : W p l e R s m args below meth c H locs cells slots Q (F0 m pc ls st0) := by
  intro T hT X
  rcases hr T hT X with ⟨v, st₀, t, T', L, h0, X', hL, e1, e2, ⟨⟨r, u, hv, hp, hb⟩, hF⟩, st⟩ | ⟨q, st₀, t, T', L, E, ce, h0, X', hL, e1, e2, ⟨u, hp, hb, hF⟩, hce, hcv, hcl, st⟩
  · cases hv
    obtain ⟨k1, k2, k3⟩ := vx_keep h0 e1 hS hA hf hL hF
    obtain ⟨t2, a1, b1⟩ := kk r u t T'.heap (locs ++ L) e1.symm (by rw [← e2]; exact X'.warmed.alike) hp hb k1 k2 k3 T' rfl X'
    exact ⟨t2, st t2 a1, b1⟩
  · obtain ⟨k1, k2, k3⟩ := vx_keep h0 e1 hS hAX hf hL hF
    obtain ⟨t2, a1, b1⟩ := kx E ce q u t T'.heap (locs ++ L) e1.symm (by rw [← e2]; exact X'.warmed.alike) hp hb k1 k2 k3 (by rw [e1]; exact hce) hcv hcl T' rfl X'
    exact ⟨t2, st.trans a1, b1⟩
theorem vx_callv {S SX : Type} {post : S → Prop} {px : SX → Prop} {B : S → State → Prop} {BX : String → SX → State → Prop} {AX : Nat → Prop} (hr : vx_Run p l e R s m args below meth c H locs cells slots mc ms (F0 m pc ls st0) rest (va_Qv post B A1 a) (vx_X px BX AX) free) (hS : va_S A0 H0 H locs) (hA : ∀ q, q < H.size → A1 q → A0 q) (hf : ∀ q, free q → A0 q) (hAX : ∀ q, q < H.size → AX q → A0 q)
    (kx : ∀ (E : String) (ce : Cell) (q9 : Addr) (u : SX) (t : State) (H1 : Heap) (locs1 : List Loc), t.heap = H1 → s.vm.Alike t.vm → px u → BX E u t → H.size ≤ H1.size → (∀ q : Nat, q < H.size → ¬ AX q → H1[q]? = H[q]?) → va_S A0 H0 H1 locs1 → H1[q9]? = some ce → ce.vm = .none → s.vm.findClass E = some ce.cls → vx_W p l e R s m args below meth c H1 locs1 (cells + mc) (slots + ms) Q (F0 m pc ls rest) q9)
    (kk : ∀ (u : S) (t : State) (H1 : Heap) (locs1 : List Loc), t.heap = H1 → s.vm.Alike t.vm → post u → B u t → H.size ≤ H1.size → (∀ q : Nat, q < H.size → ¬ A1 q → H1[q]? = H[q]?) → va_S A0 H0 H1 locs1 → W p l e R s m args below meth c H1 locs1 (cells + mc) (slots + ms) Q (F0 m (pc + 3) ls (rest))) : W p l e R s m args below meth c H locs cells slots Q (F0 m pc ls st0) := by
  intro T hT X
  rcases hr T hT X with ⟨v, st₀, t, T', L, h0, X', hL, e1, e2, ⟨⟨u, hv, hp, hb⟩, hF⟩, st⟩ | ⟨q, st₀, t, T', L, E, ce, h0, X', hL, e1, e2, ⟨u, hp, hb, hF⟩, hce, hcv, hcl, st⟩
  · cases hv
    obtain ⟨k1, k2, k3⟩ := vx_keep h0 e1 hS hA hf hL hF
    obtain ⟨t2, a1, b1⟩ := kk u t T'.heap (locs ++ L) e1.symm (by rw [← e2]; exact X'.warmed.alike) hp hb k1 k2 k3 T' rfl X'
    exact ⟨t2, st t2 a1, b1⟩
  · obtain ⟨k1, k2, k3⟩ := vx_keep h0 e1 hS hAX hf hL hF
    obtain ⟨t2, a1, b1⟩ := kx E ce q u t T'.heap (locs ++ L) e1.symm (by rw [← e2]; exact X'.warmed.alike) hp hb k1 k2 k3 (by rw [e1]; exact hce) hcv hcl T' rfl X'
    exact ⟨t2, st.trans a1, b1⟩
/-- caught by the row x of this method's table; the rows ahead don't take it -/
theorem vx_catch {own name : String} {E : String} {ce : Cell} {q : Addr} (hown : s.vm.findClass own = some m.cls) (pre : List ExceptionTableEntry) (x : ExceptionTableEntry) (suf : List ExceptionTableEntry) (hsplit : c.exceptionTable.toList = pre ++ x :: suf)
    (hpass : ∀ z ∈ pre, covers z pc = false ∨ (z.catchType ≠ 0 ∧ ∃ nm : String, (Cond.classLink own z.catchType nm).before args s = true ∧ va_Nc E nm s)) (hx : covers x pc = true) (h0 : x.catchType ≠ 0)
    (hlink : (Cond.classLink own x.catchType name).before args s = true) (hcast : (Cond.castable E name).before args s = true) (hcell : H[q]? = some ce) (hv : ce.vm = .none) (hcl : s.vm.findClass E = some ce.cls)
    (kk : W p l e R s m args below meth c H locs cells slots Q (F0 m x.handlerPc ls [.ref q])) : vx_W p l e R s m args below meth c H locs cells slots Q (F0 m pc ls rest) q := by
  intro T hT X
  have hpl : e.platform.magicAccessors = ({} : Platform).magicAccessors := by rw [X.admits.platform]
  obtain ⟨c3, c4, hc3, hc4, hasg⟩ := Cond.castable_spec hcast
  cases Option.some.inj (hc3.symm.trans hcl)
  obtain ⟨c5, hc5, hcl5⟩ := Cond.classLink_spec hown hlink e.platform hpl
  cases Option.some.inj (hc4.symm.trans hc5)
  obtain ⟨vm', X', st⟩ := X.thenCaughtThrough q (g := F0 m pc ls rest) rfl (Steps.refl _) (by rw [hT]; exact hcell) (by rw [hv]; rfl) (by obtain ⟨k9, h9, -⟩ := Vm.findClass_spec hcl; exact ⟨k9, h9⟩) pre x suf hsplit
    (fun z hz => by
      rcases hpass z hz with h | ⟨hz0, nm, hl1, hn1⟩
      · exact Or.inl h
      · obtain ⟨c6, hc6, hcl6⟩ := Cond.classLink_spec hown hl1 e.platform hpl
        obtain ⟨a8, b8, h1, h2, h3⟩ := hn1
        cases Option.some.inj (h1.symm.trans hcl)
        cases Option.some.inj (h2.symm.trans hc6)
        exact Or.inr ⟨hz0, _, hcl6, h3⟩) hx (Or.inr ⟨h0, c4, hcl5, hasg⟩)
  obtain ⟨t, a1, b1⟩ := kk (T.setVm vm') hT X'
  exact ⟨t, st.trans a1, b1⟩
end Rows
section Ends
variable {p : Program} {l : Launch} {e : Env} {R : Room} {s : State} {m : MethodId} {args : Array Value} {below : List Frame} {meth : Method} {c : Code} {H : Heap} {locs : List Loc} {cells slots : Nat} {Q : State → Prop}
variable {mc ms : Nat} {free : Addr → Prop} {A0 A1 : Nat → Prop} {H0 : Heap} {a : Array Value} {ls : Array Slot} {st0 rest : List Value}
variable {Qc : Array Value → State → Outcome → State → Prop} {XC : String → State → State → Prop}
/-- what a body that may throw owes at its end -/
def vx_MQ (below : List Frame) (Qc : Array Value → State → Outcome → State → Prop) (XC : String → State → State → Prop) (a : Array Value) (s : State) (mc ms : Nat) (free : Addr → Prop) : State → Prop := fun t =>
  ∃ o, t.status = .running ∧ Ended t below o ∧ vx_Q Qc XC mc ms free a s o t
theorem vx_ret {g : JFrame} {mc ms : Nat} (k : W p l e R s m args below meth c H locs cells slots (MQ below Qc args s mc ms free) g) : W p l e R s m args below meth c H locs cells slots (vx_MQ below Qc XC args s mc ms free) g := by
  intro T hT X
  obtain ⟨t, a1, o, b1, b2, b3, b4⟩ := k T hT X
  exact ⟨t, a1, o, b1, b2, Or.inl ⟨b3, b4⟩⟩
/-- not caught here: it goes on to the caller -/
theorem vx_widen {g : JFrame} {q : Addr} {k n : Nat} (h1 : cells ≤ k) (h2 : slots ≤ n) (kk : vx_W p l e R s m args below meth c H locs k n Q g q) : vx_W p l e R s m args below meth c H locs cells slots Q g q := fun T hT X => kk T hT (stand_widen X h1 h2)
theorem vx_out {pc : Nat} {E : String} {ce : Cell} {q : Addr} {mc ms : Nat} (hout : ∀ x ∈ c.exceptionTable.toList, covers x pc = false) (hlocks : meth.locks = false) (hcell : H[q]? = some ce) (hv : ce.vm = .none) (hcl : s.vm.findClass E = some ce.cls)
    (hx : ∀ t : State, t.heap = H → s.vm.Alike t.vm → XC E s t) (hf : ∀ z ∈ locs, free z.base) (hc : cells ≤ mc) (hs : slots ≤ ms) :
    vx_W p l e R s m args below meth c H locs cells slots (vx_MQ below Qc XC args s mc ms free) (F0 m pc ls rest) q := by
  intro T hT X
  obtain ⟨st1, hrun, hend, hW, hsm⟩ := X.leaveThrown q (g := F0 m pc ls rest) rfl rfl rfl hout hlocks
  have hcell9 : (T.setFrames (.throwing q :: below)).heap[q]? = some ce := by
    show T.heap[q]? = some ce
    rw [hT]; exact hcell
  exact ⟨_, st1, .threw q, hrun, hend, Or.inr ⟨q, rfl, E, ce, locs, hx _ hT hW.alike, hcell9, hv, hcl, hW, hsm.mono hc hs, hf⟩⟩
theorem vx_frame {U : State} {k n : Nat} (h : s.sameButNew ({ U with vm := s.vm } : State) locs k n) : s.heap.size ≤ U.heap.size ∧ ∀ q : Nat, q < s.heap.size → (∀ z ∈ locs, z.base ≠ q) → U.heap[q]? = s.heap[q]? := by
  obtain ⟨-, h2, -, -, -, h6⟩ := h
  refine ⟨h2, fun q hq hz => ?_⟩
  obtain ⟨c9, e1, e2, e3, e4⟩ := h6 q _ (Array.getElem?_eq_getElem hq)
  have hs : c9.slots = (s.heap[q]).slots := Array.ext_getElem? fun i => e4 i fun hm => hz _ hm rfl
  have h9 : c9 = s.heap[q] := by
    rw [hs] at e2
    exact e2
  have e5 : U.heap[q]? = some c9 := e1
  rw [e5, h9, Array.getElem?_eq_getElem hq]
/-- the words of a throw but the four that speak of the heap -/
def vx_no (w : Cond) : Bool := decide (w ≠ .isRef (.static Bundle.tN "UNASSIGNED_STACK" Bundle.steD)) && decide (w ≠ .isRef (.static Bundle.tN "SUPPRESSED_SENTINEL" Bundle.listD)) && decide (w ≠ .laysStatic Bundle.tN "UNASSIGNED_STACK" Bundle.steD) && decide (w ≠ .laysStatic Bundle.tN "SUPPRESSED_SENTINEL" Bundle.listD)
def vx_at0 (own : String) (ic : Nat) (X : String) (names : List String) : List Cond := (Bundle.ownAtoms0 own ic X names).filter vx_no
def vx_atS (own : String) (ic : Nat) (X : String) (names : List String) : List Cond := (Bundle.ownAtoms own ic X names).filter vx_no
/-- a word that the tables alone decide, or a good one -/
def vx_ot (w : Cond) : Bool := w.onTables || goodWord w
theorem vx_ot_at {args a' : Array Value} {s U : State} {w : Cond} (hW : s.WarmedH U.vm) (hvm : s.vm = U.vm) (hg : vx_ot w = true) (h : w.before args s = true) : w.before a' U = true := by
  simp only [vx_ot, Bool.or_eq_true] at hg
  rcases hg with hg | hg
  · exact va_tabs hg hvm h
  · exact word_at hW (good_of_word hg) h
/-- a list's words: the good ones out of the method's own list, the others by premises of their own -/
theorem vx_hat {args : Array Value} {s : State} {L B : List Cond} (h1 : ∀ w ∈ L.filter goodWord, w.before args s = true) (h2 : ∀ w ∈ L.filter (fun w => !goodWord w), w ∈ B) (h3 : ∀ w ∈ B, w.before args s = true) : ∀ w ∈ L, w.before args s = true := by
  intro w hw
  by_cases g : goodWord w = true
  · exact h1 w (List.mem_filter.mpr ⟨hw, g⟩)
  · refine h3 w (h2 w (List.mem_filter.mpr ⟨hw, ?_⟩))
    show (!goodWord w) = true
    cases hgw : goodWord w
    · rfl
    · exact absurd hgw g
theorem vx_c {args : Array Value} {s : State} {w : Cond} {B : List Cond} (h : w.before args s = true) (t : ∀ w ∈ B, w.before args s = true) : ∀ w' ∈ w :: B, w'.before args s = true := fun w' h' => (List.mem_cons.mp h').elim (fun e => by rw [e]; exact h) (t w')
theorem vx_n {args : Array Value} {s : State} : ∀ w ∈ ([] : List Cond), w.before args s = true := fun _ h => nomatch h
theorem vx_own {args : Array Value} {s : State} {L : List Cond} (h1 : ∀ w ∈ L.filter vx_no, w.before args s = true)
    (hU : (Cond.isRef (.static Bundle.tN "UNASSIGNED_STACK" Bundle.steD)).before args s = true) (hN : (Cond.isRef (.static Bundle.tN "SUPPRESSED_SENTINEL" Bundle.listD)).before args s = true)
    (lU : (Cond.laysStatic Bundle.tN "UNASSIGNED_STACK" Bundle.steD).before args s = true) (lN : (Cond.laysStatic Bundle.tN "SUPPRESSED_SENTINEL" Bundle.listD).before args s = true) : ∀ w ∈ L, w.before args s = true := by
  intro w hw
  by_cases e1 : w = .isRef (.static Bundle.tN "UNASSIGNED_STACK" Bundle.steD)
  · rw [e1]; exact hU
  · by_cases e2 : w = .isRef (.static Bundle.tN "SUPPRESSED_SENTINEL" Bundle.listD)
    · rw [e2]; exact hN
    · by_cases e3 : w = .laysStatic Bundle.tN "UNASSIGNED_STACK" Bundle.steD
      · rw [e3]; exact lU
      · by_cases e4 : w = .laysStatic Bundle.tN "SUPPRESSED_SENTINEL" Bundle.listD
        · rw [e4]; exact lN
        · exact h1 w (List.mem_filter.mpr ⟨hw, by unfold vx_no; rw [decide_eq_true e1, decide_eq_true e2, decide_eq_true e3, decide_eq_true e4]; rfl⟩)
/-- where a static field lies, its class's statics cell in H -/
def vx_L (C n d : String) (A : Nat → Prop) (U : State) (H : Heap) : Prop := ∃ (c : ClassId) (k : Class) (i : Nat) (f : Field) (a : Nat) (cell : Cell), U.vm.findClass C = some c ∧ U.fieldFound? C n d = some (c, k, i, f) ∧ f.isStatic = true ∧ k.statics = some a ∧ H[a]? = some cell ∧ cell.vm.isStatics = true ∧ cell.cls = c ∧ f.slot < cell.slots.size ∧ k.staticTypes[f.slot]? = some f.type ∧ ¬ A a
theorem vx_L.moved {C n d : String} {A : Nat → Prop} {u U : State} {H : Heap} (hvm : u.vm.Alike U.vm) (h : vx_L C n d A u H) : vx_L C n d A U H := by
  obtain ⟨c, k, i, f, a, cell, h1, h2, h3, h4, h5, h6, h7, h8, h9, h10⟩ := h
  obtain ⟨k', hi', he⟩ := State.fieldFound?_setVm hvm h2
  exact ⟨c, k', i, f, a, cell, by rw [hvm.findClass]; exact h1, hi', h3, by rw [he]; exact h4, h5, h6, h7, h8, by rw [he]; exact h9, h10⟩
theorem vx_L.kept {C n d : String} {A : Nat → Prop} {U : State} {H H1 : Heap} (h : vx_L C n d A U H) (hq : ∀ a : Nat, a < H.size → ¬ A a → H1[a]? = H[a]?) : vx_L C n d A U H1 := by
  obtain ⟨c, k, i, f, a, cell, h1, h2, h3, h4, h5, h6, h7, h8, h9, h10⟩ := h
  exact ⟨c, k, i, f, a, cell, h1, h2, h3, h4, by rw [hq a (Array.getElem?_eq_some_iff.mp h5).1 h10]; exact h5, h6, h7, h8, h9, h10⟩
theorem vx_L.narrow {C n d : String} {A B : Nat → Prop} {U : State} {H : Heap} (h : vx_L C n d A U H) (hAB : ∀ q, B q → A q) : vx_L C n d B U H := by
  obtain ⟨c, k, i, f, a, cell, h1, h2, h3, h4, h5, h6, h7, h8, h9, h10⟩ := h
  exact ⟨c, k, i, f, a, cell, h1, h2, h3, h4, h5, h6, h7, h8, h9, fun z => h10 (hAB _ z)⟩
theorem vx_L.word {C n d : String} {A : Nat → Prop} {s : State} {args : Array Value} (h : vx_L C n d A s s.heap) : (Cond.laysStatic C n d).before args s = true := by
  obtain ⟨c, k, i, f, a, cell, h1, h2, h3, h4, h5, h6, h7, h8, h9, -⟩ := h
  show (Cond.laysStatic C n d).holds args s none s [] = true
  exact Cond.laysStatic_of h1 h2 h3 h4 h5 h6 h7 h8 h9
/-- .. and what it holds: null or some reference -/
def vx_Zq (C n d : String) (A : Nat → Prop) (U : State) (H : Heap) : Prop := va_Zq C n d A U H ∧ vx_L C n d A U H
theorem vx_Zq.moved {C n d : String} {A : Nat → Prop} {u U : State} {H : Heap} (hvm : u.vm.Alike U.vm) (h : vx_Zq C n d A u H) : vx_Zq C n d A U H := ⟨va_Zq.moved hvm h.1, vx_L.moved hvm h.2⟩
theorem vx_Zq.kept {C n d : String} {A : Nat → Prop} {U : State} {H H1 : Heap} (h : vx_Zq C n d A U H) (hq : ∀ a : Nat, a < H.size → ¬ A a → H1[a]? = H[a]?) : vx_Zq C n d A U H1 := ⟨va_Zq.kept h.1 hq, vx_L.kept h.2 hq⟩
theorem vx_Zq.narrow {C n d : String} {A B : Nat → Prop} {U : State} {H : Heap} (h : vx_Zq C n d A U H) (hAB : ∀ q, B q → A q) : vx_Zq C n d B U H := ⟨va_Zq.narrow h.1 hAB, vx_L.narrow h.2 hAB⟩
theorem vx_Zqof {args : Array Value} {s : State} {C n d : String} {A : Nat → Prop} (hl : (Cond.laysStatic C n d).before args s = true) (hini : (Cond.initialized C).before args s = true) (h : (Cond.isRef (.static C n d)).before args s = true) (hA : ∀ a : Nat, a < s.heap.size → ¬ A a) : vx_Zq C n d A s s.heap := by
  refine ⟨va_Zqof hl hini h hA, ?_⟩
  obtain ⟨c, k, i, f, a, cell, h1, h2, h3, h4, h5, h6, h7, h8, h9⟩ := Cond.laysStatic_spec hl
  exact ⟨c, k, i, f, a, cell, h1, h2, h3, h4, h5, h6, h7, h8, h9, hA a (Array.getElem?_eq_some_iff.mp h5).1⟩
theorem vx_isRef {C n d : String} {v : Value} {A : Nat → Prop} {s : State} {args : Array Value} (h : va_Z C n d v A s s.heap) (hv : v.isRef = true) : (Cond.isRef (.static C n d)).before args s = true := by
  obtain ⟨cf, kf, fi, f, a, cell, h1, h2, h3, h4, h5, h6, h7, -⟩ := h
  have he : (Term.static C n d).eval args s none [] s = some v := by
    simp [Term.eval, State.fieldNamed?, h1, h2, h4, h5, h6, h7]
  simp only [Cond.before, Cond.holds, Cond.value, he]
  cases v <;> simp_all [Value.isRef]
theorem vx_isRefq {C n d : String} {A : Nat → Prop} {s : State} {args : Array Value} (h : va_Zq C n d A s s.heap) : (Cond.isRef (.static C n d)).before args s = true := by
  rcases h with h | ⟨t, h⟩
  · exact vx_isRef h rfl
  · exact vx_isRef h rfl
/-- the same frame, seen from here: as if the method were called anew in this heap -/
theorem vx_rebase {T : State} (X : Stand p l e R s m args below meth c T locs cells slots) {R' : Room} (hf : R'.frames ≤ R.frames) (hl : R'.locals ≤ R.locals) (hc : cells + R'.cells ≤ R.cells) (hs : slots + R'.slots ≤ R.slots) :
    Stand p l e R' ((T.setVm s.vm).setFrames (.invoking m args :: below)) m args below meth c T [] 0 0 := by
  have htop : (T.setVm s.vm).topJava?.isSome := X.here.top
  have hF : ((T.setVm s.vm).setFrames (.invoking m args :: below)).frames = .invoking m args :: below := State.frames_setFrames _ (State.cur_lt_of_top htop)
  obtain ⟨g₀, hg0⟩ := Option.isSome_iff_exists.mp htop
  obtain ⟨r, hr⟩ := State.topJava?_eq_some.mp hg0
  have hl9 : e.platform.stackLimits (T.setVm s.vm).me = e.platform.stackLimits s.me := X.limits
  have hb9 : (T.setVm s.vm).me.stackBytes = s.me.stackBytes := X.bytes
  refine ⟨X.admits, X.cas, X.clock, hF, ?_, X.hears, X.method, X.code, X.here, X.tail, X.warmed, ?_, ?_, ?_⟩
  · have h := X.room
    have hU : ((T.setVm s.vm).setFrames (.invoking m args :: below)).localsInUse = s.localsInUse := by
      rw [State.localsInUse_invoking hF (meth := meth) (c := c) X.method X.code, State.localsInUse_invoking X.frames X.method X.code]
    simp only [State.hasRoom, Bool.and_eq_true, decide_eq_true_eq] at h ⊢
    obtain ⟨⟨⟨⟨h1, h2, h3, h4, h5, h6⟩, h7⟩, h8⟩, h9⟩ := h
    rw [X.frames, List.length_cons] at h2 h3
    have q1 := X.heapSize
    have q2 := X.used
    simp only [hF, hU, List.length_cons, State.stackLimits_setFrames, State.stackBytes_setFrames, hl9, hb9]
    refine ⟨⟨⟨⟨by omega, by omega, by omega, by omega, by omega, h6⟩, ?_⟩, ?_⟩, X.book⟩
    · show T.heap.size + R'.cells ≤ e.platform.maxCells
      omega
    · show T.slotsUsed + R'.slots ≤ e.platform.maxSlots
      omega
  · rw [State.stackLimits_setFrames]; rfl
  · rw [State.stackBytes_setFrames]; rfl
  · refine ⟨?_, Nat.le_refl _, Nat.le_refl _, ?_, ?_, fun a c9 h9 => ⟨c9, h9, rfl, rfl, fun _ _ => rfl⟩⟩
    · obtain ⟨t, ht, -⟩ := State.frames_cons hr
      show T.setVm s.vm = { ((T.setVm s.vm).setFrames (.invoking m args :: below)).setFrames (T.setVm s.vm).frames with heap := T.heap, slotsUsed := T.slotsUsed }
      rw [State.setFrames_setFrames, State.setFrames_self ht]
      rfl
    · show T.slotsUsed = T.slotsUsed + ((T.heap.toList.drop T.heap.size).map (·.slots.size)).sum
      rw [List.drop_eq_nil_of_le (Nat.le_of_eq Array.length_toList)]
      rfl
    · show ((T.heap.toList.drop T.heap.size).map (·.slots.size)).sum ≤ 0
      rw [List.drop_eq_nil_of_le (Nat.le_of_eq Array.length_toList)]
      exact Nat.le_refl _
/-- 'throw new E()': new; dup; invokespecial; athrow -/
theorem vx_throw0 {cc : ByteArray} {pc : Nat} (hexec : p.tables.exec = Jvm.exec) (hb : c.code = cc) (hl : l.stackTraces = false) {own cls : String} {names : List String} {ik ic mc ms : Nat} {A : Nat → Prop}
    (hown : s.vm.findClass own = some m.cls) (hcls : Bundle.fit cls = true) (hnames : ∀ n ∈ names, Bundle.fit n = true)
    (hk : (Cond.classLink own ik cls).before args s = true) (hini : (Cond.initialized cls).before args s = true) (hat : ∀ w ∈ vx_at0 own ic cls names, w.before args s = true)
    (hgood : ∀ w ∈ Cond.classLink own ik cls :: Cond.initialized cls :: vx_at0 own ic cls names, vx_ot w = true)
    (hU : vx_Zq Bundle.tN "UNASSIGNED_STACK" Bundle.steD A s s.heap) (hN : vx_Zq Bundle.tN "SUPPRESSED_SENTINEL" Bundle.listD A s s.heap) (hS : va_S A s.heap H locs) (hsize : ls.size = c.maxLocals)
    (d0 : decode cc pc = .ok (.new ik, 3)) (d3 : decode cc (pc + 3) = .ok (.dup, 1)) (d4 : decode cc (pc + 4) = .ok (.invokespecial ic, 3)) (d7 : decode cc (pc + 7) = .ok (.athrow, 1))
    (hout : ∀ x ∈ c.exceptionTable.toList, covers x (pc + 7) = false)
    (hRframes : names.length + 3 < R.frames) (hRlocals : (rest.map fun v => v.category).sum + (13 * (names.length + 1) + 42) ≤ R.locals) (hRcells : cells + 1 ≤ R.cells) (hRslots : slots + 6 ≤ R.slots) (hlocks : meth.locks = false)
    (hx : ∀ t : State, s.vm.Alike t.vm → H.size ≤ t.heap.size → (∀ q : Nat, q < H.size → t.heap[q]? = H[q]?) → XC cls s t)
    (hf : ∀ z ∈ locs, free z.base) (hc : cells + 1 ≤ mc) (hs : slots + 6 ≤ ms) :
    W p l e R s m args below meth c H locs cells slots (vx_MQ below Qc XC args s mc ms free) (F0 m pc ls rest) := by
  intro T hT X
  have htr : e.platform.stackTraces = false := (show e.platform.stackTraces = l.stackTraces by rw [X.admits.platform]).trans hl
  have Y := vx_rebase X (R' := { frames := R.frames, locals := R.locals, cells := 1, slots := 6 }) (Nat.le_refl _) (Nat.le_refl _) hRcells hRslots
  obtain ⟨s', hA⟩ : ∃ z, z = (T.setVm s.vm).setFrames (.invoking m args :: below) := ⟨_, rfl⟩
  rw [← hA] at Y
  have hvm : s'.vm = s.vm := by rw [hA]; rfl
  have hhp : s'.heap = H := by rw [hA]; exact hT
  have hW0 : s.WarmedH s'.vm := by rw [hvm]; exact State.WarmedH.refl s
  have hat' : ∀ w ∈ vx_at0 own ic cls names, w.before args s' = true := fun w hw => vx_ot_at hW0 hvm.symm (hgood w (List.mem_cons_of_mem _ (List.mem_cons_of_mem _ hw))) (hat w hw)
  have hk' : (Cond.classLink own ik cls).before args s' = true := vx_ot_at hW0 hvm.symm (hgood _ List.mem_cons_self) hk
  have hini' : (Cond.initialized cls).before args s' = true := vx_ot_at hW0 hvm.symm (hgood _ (List.mem_cons_of_mem _ List.mem_cons_self)) hini
  have hU' : vx_Zq Bundle.tN "UNASSIGNED_STACK" Bundle.steD A s' s'.heap := by rw [hhp]; exact vx_Zq.moved hW0.alike (hU.kept hS.2.1)
  have hN' : vx_Zq Bundle.tN "SUPPRESSED_SENTINEL" Bundle.listD A s' s'.heap := by rw [hhp]; exact vx_Zq.moved hW0.alike (hN.kept hS.2.1)
  have h : ∀ w ∈ Bundle.ownAtoms0 own ic cls names, w.before args s' = true := vx_own hat' (vx_isRefq hU'.1) (vx_isRefq hN'.1) hU'.2.word hN'.2.word
  have hown' : s'.vm.findClass own = some m.cls := by rw [hvm]; exact hown
  have hins : (Cond.instantiable cls 6).before args s' = true := h _ (by simp [Bundle.ownAtoms0])
  obtain ⟨vm₁, cX, kX, hfX, hkX, -, -, X₁, st1⟩ := Y.newCold hexec (own := own) (C := cls) (index := ik) (n := 6) hown' hk' hins hini'
    (g := F0 m pc ls rest) rfl (by rw [hb]; exact d0) (Nat.le_refl _) (Nat.le_refl _)
  generalize hT1 : (T.setVm vm₁).pushCell { cls := cX, slots := kX.instanceTypes.map defaultValue, vm := .none } = T1 at X₁ st1
  have hcat : (Value.ref T.heap.size).category = 1 := rfl
  have hcellA : T1.heap[T.heap.size]? = some (freshCell cX kX) := by rw [← hT1]; exact State.heap_pushCell_size _ _
  have d3' : decode c.code (pc + 3) = .ok (.dup, 1) := by rw [hb]; exact d3
  obtain ⟨U, hsteps, hrun, hend, hW, hsame, ce, hce, hO⟩ := X₁.ctorThrow0 hexec htr (own := own) (cls := cls) (names := names) (ic := ic) hown' hcls hnames h (fun x hx => nomatch hx) hfX hkX hcellA (by rw [hhp, hT]; exact Nat.le_refl _)
    (g := { method := m, pc := pc + 4, locals := ls, stack := .ref T.heap.size :: .ref T.heap.size :: rest, locked := none }) rfl hsize rfl rfl (rest := rest) rfl
    (by rw [hb]; exact d4) (by rw [hb]; exact d7) hout hRframes (by simp only [List.map_cons, List.sum_cons, hcat]; omega) hlocks
  obtain ⟨f1, f2⟩ := vx_frame hsame
  rw [hhp] at f1 f2
  have hWs : s.WarmedH U.vm := State.WarmedH.trans hW0 hW
  have hcl : s.vm.findClass cls = some ce.cls := by
    have h9 := hO.cls
    rw [hvm] at h9
    exact h9
  have hall : s.sameButNew ({ U with vm := s.vm } : State) locs mc ms := by
    subst hA
    obtain ⟨e1, e2⟩ := hsame
    rw [State.setFrames_setFrames] at e1
    have h2 : (T.setVm s.vm).sameButNew ({ U with vm := s.vm } : State) [] (0 + 1) (0 + 6) := ⟨e1, e2⟩
    have h3 := X.same.trans h2
    rw [List.append_nil] at h3
    exact h3.mono hc hs
  refine ⟨U, ?_, .threw T.heap.size, hrun, hend, Or.inr ⟨T.heap.size, rfl, cls, ce, locs, hx U hWs.alike f1 (fun q hq => f2 q hq (fun z hz => nomatch hz)), hce, hO.vm, hcl, hWs, hall, hf⟩⟩
  refine st1 _ ?_
  show Steps p.tables e below (T1.setTop { method := m, pc := pc + 3, locals := ls, stack := .ref T.heap.size :: rest, locked := none }) _
  jvm_step X₁.here [X₁.here.top, hexec, d3', Value.category]
  exact hsteps
/-- 'throw new E("text")': new; dup; ldc; invokespecial; athrow -/
theorem vx_throwS {cc : ByteArray} {pc : Nat} (hexec : p.tables.exec = Jvm.exec) (hb : c.code = cc) (hl : l.stackTraces = false) {own cls text : String} {names : List String} {ik is ic mc ms sa : Nat} {A : Nat → Prop}
    (hown : s.vm.findClass own = some m.cls) (hcls : Bundle.fit cls = true) (hnames : ∀ n ∈ names, Bundle.fit n = true)
    (hk : (Cond.classLink own ik cls).before args s = true) (hini : (Cond.initialized cls).before args s = true) (hstr : vk_R own is text sa s) (hat : ∀ w ∈ vx_atS own ic cls names, w.before args s = true)
    (hgood : ∀ w ∈ Cond.classLink own ik cls :: Cond.initialized cls :: vx_atS own ic cls names, vx_ot w = true)
    (hU : vx_Zq Bundle.tN "UNASSIGNED_STACK" Bundle.steD A s s.heap) (hN : vx_Zq Bundle.tN "SUPPRESSED_SENTINEL" Bundle.listD A s s.heap) (hS : va_S A s.heap H locs) (hsize : ls.size = c.maxLocals)
    (d0 : decode cc pc = .ok (.new ik, 3)) (d3 : decode cc (pc + 3) = .ok (.dup, 1)) (d4 : decode cc (pc + 4) = .ok (.ldc is, 2)) (d6 : decode cc (pc + 6) = .ok (.invokespecial ic, 3)) (d9 : decode cc (pc + 9) = .ok (.athrow, 1))
    (hout : ∀ x ∈ c.exceptionTable.toList, covers x (pc + 9) = false)
    (hRframes : names.length + 3 < R.frames) (hRlocals : (rest.map fun v => v.category).sum + (13 * (names.length + 1) + 43) ≤ R.locals) (hRcells : cells + 1 ≤ R.cells) (hRslots : slots + 6 ≤ R.slots) (hlocks : meth.locks = false)
    (hx : ∀ t : State, s.vm.Alike t.vm → H.size ≤ t.heap.size → (∀ q : Nat, q < H.size → t.heap[q]? = H[q]?) → XC cls s t)
    (hf : ∀ z ∈ locs, free z.base) (hc : cells + 1 ≤ mc) (hs : slots + 6 ≤ ms) :
    W p l e R s m args below meth c H locs cells slots (vx_MQ below Qc XC args s mc ms free) (F0 m pc ls rest) := by
  intro T hT X
  have htr : e.platform.stackTraces = false := (show e.platform.stackTraces = l.stackTraces by rw [X.admits.platform]).trans hl
  have Y := vx_rebase X (R' := { frames := R.frames, locals := R.locals, cells := 1, slots := 6 }) (Nat.le_refl _) (Nat.le_refl _) hRcells hRslots
  obtain ⟨s', hA⟩ : ∃ z, z = (T.setVm s.vm).setFrames (.invoking m args :: below) := ⟨_, rfl⟩
  rw [← hA] at Y
  have hvm : s'.vm = s.vm := by rw [hA]; rfl
  have hhp : s'.heap = H := by rw [hA]; exact hT
  have hW0 : s.WarmedH s'.vm := by rw [hvm]; exact State.WarmedH.refl s
  have hat' : ∀ w ∈ vx_atS own ic cls names, w.before args s' = true := fun w hw => vx_ot_at hW0 hvm.symm (hgood w (List.mem_cons_of_mem _ (List.mem_cons_of_mem _ hw))) (hat w hw)
  have hk' : (Cond.classLink own ik cls).before args s' = true := vx_ot_at hW0 hvm.symm (hgood _ List.mem_cons_self) hk
  have hini' : (Cond.initialized cls).before args s' = true := vx_ot_at hW0 hvm.symm (hgood _ (List.mem_cons_of_mem _ List.mem_cons_self)) hini
  have hU' : vx_Zq Bundle.tN "UNASSIGNED_STACK" Bundle.steD A s' s'.heap := by rw [hhp]; exact vx_Zq.moved hW0.alike (hU.kept hS.2.1)
  have hN' : vx_Zq Bundle.tN "SUPPRESSED_SENTINEL" Bundle.listD A s' s'.heap := by rw [hhp]; exact vx_Zq.moved hW0.alike (hN.kept hS.2.1)
  have h : ∀ w ∈ Bundle.ownAtoms own ic cls names, w.before args s' = true := vx_own hat' (vx_isRefq hU'.1) (vx_isRefq hN'.1) hU'.2.word hN'.2.word
  have hown' : s'.vm.findClass own = some m.cls := by rw [hvm]; exact hown
  have hins : (Cond.instantiable cls 6).before args s' = true := h _ (by simp [Bundle.ownAtoms])
  obtain ⟨vm₁, cX, kX, hfX, hkX, -, -, X₁, st1⟩ := Y.newCold hexec (own := own) (C := cls) (index := ik) (n := 6) hown' hk' hins hini'
    (g := F0 m pc ls rest) rfl (by rw [hb]; exact d0) (Nat.le_refl _) (Nat.le_refl _)
  generalize hT1 : (T.setVm vm₁).pushCell { cls := cX, slots := kX.instanceTypes.map defaultValue, vm := .none } = T1 at X₁ st1
  have hcat : (Value.ref T.heap.size).category = 1 := rfl
  have hcellA : T1.heap[T.heap.size]? = some (freshCell cX kX) := by rw [← hT1]; exact State.heap_pushCell_size _ _
  have d3' : decode c.code (pc + 3) = .ok (.dup, 1) := by rw [hb]; exact d3
  have d4' : decode c.code (pc + 4) = .ok (.ldc is, 2) := by rw [hb]; exact d4
  have hstr' : vk_R own is text sa s' := vk_R.warm hW0 hstr
  obtain ⟨U, hsteps, hrun, hend, hW, hsame, ce, hce, hO⟩ := X₁.ctorThrowS hexec htr (own := own) (cls := cls) (names := names) (ic := ic) hown' hcls hnames h (fun x hx => nomatch hx) hfX hkX hcellA (by rw [hhp, hT]; exact Nat.le_refl _) (msg := .ref sa) rfl
    (g := { method := m, pc := pc + 6, locals := ls, stack := .ref sa :: .ref T.heap.size :: .ref T.heap.size :: rest, locked := none }) rfl hsize rfl rfl (rest := rest) rfl
    (by rw [hb]; exact d6) (by rw [hb]; exact d9) hout hRframes (by simp only [List.map_cons, List.sum_cons, hcat]; omega) hlocks
  obtain ⟨f1, f2⟩ := vx_frame hsame
  rw [hhp] at f1 f2
  have hWs : s.WarmedH U.vm := State.WarmedH.trans hW0 hW
  have hcl : s.vm.findClass cls = some ce.cls := by
    have h9 := hO.cls
    rw [hvm] at h9
    exact h9
  have hall : s.sameButNew ({ U with vm := s.vm } : State) locs mc ms := by
    subst hA
    obtain ⟨e1, e2⟩ := hsame
    rw [State.setFrames_setFrames] at e1
    have h2 : (T.setVm s.vm).sameButNew ({ U with vm := s.vm } : State) [] (0 + 1) (0 + 6) := ⟨e1, e2⟩
    have h3 := X.same.trans h2
    rw [List.append_nil] at h3
    exact h3.mono hc hs
  refine ⟨U, ?_, .threw T.heap.size, hrun, hend, Or.inr ⟨T.heap.size, rfl, cls, ce, locs, hx U hWs.alike f1 (fun q hq => f2 q hq (fun z hz => nomatch hz)), hce, hO.vm, hcl, hWs, hall, hf⟩⟩
  refine st1 _ ?_
  show Steps p.tables e below (T1.setTop { method := m, pc := pc + 3, locals := ls, stack := .ref T.heap.size :: rest, locked := none }) _
  jvm_step X₁.here [X₁.here.top, hexec, d3', Value.category]
  exact X₁.ldcString hexec (own := own) (text := text) (index := is) (a := sa) hown' hstr'.1 hstr'.2
    (g := { method := m, pc := pc + 4, locals := ls, stack := .ref T.heap.size :: .ref T.heap.size :: rest, locked := none }) rfl d4' _ hsteps
/-- 'throw new E("text")', the text by a wide index -/
theorem vx_throwSW {cc : ByteArray} {pc : Nat} (hexec : p.tables.exec = Jvm.exec) (hb : c.code = cc) (hl : l.stackTraces = false) {own cls text : String} {names : List String} {ik is ic mc ms sa : Nat} {A : Nat → Prop}
    (hown : s.vm.findClass own = some m.cls) (hcls : Bundle.fit cls = true) (hnames : ∀ n ∈ names, Bundle.fit n = true)
    (hk : (Cond.classLink own ik cls).before args s = true) (hini : (Cond.initialized cls).before args s = true) (hstr : vk_R own is text sa s) (hat : ∀ w ∈ vx_atS own ic cls names, w.before args s = true)
    (hgood : ∀ w ∈ Cond.classLink own ik cls :: Cond.initialized cls :: vx_atS own ic cls names, vx_ot w = true)
    (hU : vx_Zq Bundle.tN "UNASSIGNED_STACK" Bundle.steD A s s.heap) (hN : vx_Zq Bundle.tN "SUPPRESSED_SENTINEL" Bundle.listD A s s.heap) (hS : va_S A s.heap H locs) (hsize : ls.size = c.maxLocals)
    (d0 : decode cc pc = .ok (.new ik, 3)) (d3 : decode cc (pc + 3) = .ok (.dup, 1)) (d4 : decode cc (pc + 4) = .ok (.ldc_w is, 3)) (d7 : decode cc (pc + 7) = .ok (.invokespecial ic, 3)) (d10 : decode cc (pc + 10) = .ok (.athrow, 1))
    (hout : ∀ x ∈ c.exceptionTable.toList, covers x (pc + 10) = false)
    (hRframes : names.length + 3 < R.frames) (hRlocals : (rest.map fun v => v.category).sum + (13 * (names.length + 1) + 43) ≤ R.locals) (hRcells : cells + 1 ≤ R.cells) (hRslots : slots + 6 ≤ R.slots) (hlocks : meth.locks = false)
    (hx : ∀ t : State, s.vm.Alike t.vm → H.size ≤ t.heap.size → (∀ q : Nat, q < H.size → t.heap[q]? = H[q]?) → XC cls s t)
    (hf : ∀ z ∈ locs, free z.base) (hc : cells + 1 ≤ mc) (hs : slots + 6 ≤ ms) :
    W p l e R s m args below meth c H locs cells slots (vx_MQ below Qc XC args s mc ms free) (F0 m pc ls rest) := by
  intro T hT X
  have htr : e.platform.stackTraces = false := (show e.platform.stackTraces = l.stackTraces by rw [X.admits.platform]).trans hl
  have Y := vx_rebase X (R' := { frames := R.frames, locals := R.locals, cells := 1, slots := 6 }) (Nat.le_refl _) (Nat.le_refl _) hRcells hRslots
  obtain ⟨s', hA⟩ : ∃ z, z = (T.setVm s.vm).setFrames (.invoking m args :: below) := ⟨_, rfl⟩
  rw [← hA] at Y
  have hvm : s'.vm = s.vm := by rw [hA]; rfl
  have hhp : s'.heap = H := by rw [hA]; exact hT
  have hW0 : s.WarmedH s'.vm := by rw [hvm]; exact State.WarmedH.refl s
  have hat' : ∀ w ∈ vx_atS own ic cls names, w.before args s' = true := fun w hw => vx_ot_at hW0 hvm.symm (hgood w (List.mem_cons_of_mem _ (List.mem_cons_of_mem _ hw))) (hat w hw)
  have hk' : (Cond.classLink own ik cls).before args s' = true := vx_ot_at hW0 hvm.symm (hgood _ List.mem_cons_self) hk
  have hini' : (Cond.initialized cls).before args s' = true := vx_ot_at hW0 hvm.symm (hgood _ (List.mem_cons_of_mem _ List.mem_cons_self)) hini
  have hU' : vx_Zq Bundle.tN "UNASSIGNED_STACK" Bundle.steD A s' s'.heap := by rw [hhp]; exact vx_Zq.moved hW0.alike (hU.kept hS.2.1)
  have hN' : vx_Zq Bundle.tN "SUPPRESSED_SENTINEL" Bundle.listD A s' s'.heap := by rw [hhp]; exact vx_Zq.moved hW0.alike (hN.kept hS.2.1)
  have h : ∀ w ∈ Bundle.ownAtoms own ic cls names, w.before args s' = true := vx_own hat' (vx_isRefq hU'.1) (vx_isRefq hN'.1) hU'.2.word hN'.2.word
  have hown' : s'.vm.findClass own = some m.cls := by rw [hvm]; exact hown
  have hins : (Cond.instantiable cls 6).before args s' = true := h _ (by simp [Bundle.ownAtoms])
  obtain ⟨vm₁, cX, kX, hfX, hkX, -, -, X₁, st1⟩ := Y.newCold hexec (own := own) (C := cls) (index := ik) (n := 6) hown' hk' hins hini'
    (g := F0 m pc ls rest) rfl (by rw [hb]; exact d0) (Nat.le_refl _) (Nat.le_refl _)
  generalize hT1 : (T.setVm vm₁).pushCell { cls := cX, slots := kX.instanceTypes.map defaultValue, vm := .none } = T1 at X₁ st1
  have hcat : (Value.ref T.heap.size).category = 1 := rfl
  have hcellA : T1.heap[T.heap.size]? = some (freshCell cX kX) := by rw [← hT1]; exact State.heap_pushCell_size _ _
  have d3' : decode c.code (pc + 3) = .ok (.dup, 1) := by rw [hb]; exact d3
  have d4' : decode c.code (pc + 4) = .ok (.ldc_w is, 3) := by rw [hb]; exact d4
  have hstr' : vk_R own is text sa s' := vk_R.warm hW0 hstr
  obtain ⟨U, hsteps, hrun, hend, hW, hsame, ce, hce, hO⟩ := X₁.ctorThrowS hexec htr (own := own) (cls := cls) (names := names) (ic := ic) hown' hcls hnames h (fun x hx => nomatch hx) hfX hkX hcellA (by rw [hhp, hT]; exact Nat.le_refl _) (msg := .ref sa) rfl
    (g := { method := m, pc := pc + 7, locals := ls, stack := .ref sa :: .ref T.heap.size :: .ref T.heap.size :: rest, locked := none }) rfl hsize rfl rfl (rest := rest) rfl
    (by rw [hb]; exact d7) (by rw [hb]; exact d10) hout hRframes (by simp only [List.map_cons, List.sum_cons, hcat]; omega) hlocks
  obtain ⟨f1, f2⟩ := vx_frame hsame
  rw [hhp] at f1 f2
  have hWs : s.WarmedH U.vm := State.WarmedH.trans hW0 hW
  have hcl : s.vm.findClass cls = some ce.cls := by
    have h9 := hO.cls
    rw [hvm] at h9
    exact h9
  have hall : s.sameButNew ({ U with vm := s.vm } : State) locs mc ms := by
    subst hA
    obtain ⟨e1, e2⟩ := hsame
    rw [State.setFrames_setFrames] at e1
    have h2 : (T.setVm s.vm).sameButNew ({ U with vm := s.vm } : State) [] (0 + 1) (0 + 6) := ⟨e1, e2⟩
    have h3 := X.same.trans h2
    rw [List.append_nil] at h3
    exact h3.mono hc hs
  refine ⟨U, ?_, .threw T.heap.size, hrun, hend, Or.inr ⟨T.heap.size, rfl, cls, ce, locs, hx U hWs.alike f1 (fun q hq => f2 q hq (fun z hz => nomatch hz)), hce, hO.vm, hcl, hWs, hall, hf⟩⟩
  refine st1 _ ?_
  show Steps p.tables e below (T1.setTop { method := m, pc := pc + 3, locals := ls, stack := .ref T.heap.size :: rest, locked := none }) _
  jvm_step X₁.here [X₁.here.top, hexec, d3', Value.category]
  exact X₁.ldcStringW hexec (own := own) (text := text) (index := is) (a := sa) hown' hstr'.1 hstr'.2
    (g := { method := m, pc := pc + 4, locals := ls, stack := .ref T.heap.size :: .ref T.heap.size :: rest, locked := none }) rfl d4' _ hsteps
end Ends
section Bodies
variable {l : Launch}
theorem vx_ofW {y : MethodName} {ws ws' : List Cond} {rm : Room} {Pc : Array Value → State → Prop} {Qc : Array Value → State → Outcome → State → Prop} {XC : String → State → State → Prop} {mc ms : Nat} {free : Addr → Prop} {cc : ByteArray} {maxL : Nat} {ret : Option FieldType}
    (hy : plainName y.cls = true) (hw : ws = Cond.code y cc maxL ret :: ws')
    (body : ∀ p e s m args below meth c s₁, BodyLoose p l y (headSpec ws rm) cc maxL ret e s m args below meth c s₁ → c.maxLocals = maxL → (∀ x ∈ c.exceptionTable.toList, False) → Pc args s →
      W p l e (headSpec ws rm).room s m args below meth c s.heap [] 0 0 (vx_MQ below Qc XC args s mc ms free) (entryFrame m args maxL)) : vx_Met l y ws rm Pc Qc XC mc ms free := by
  refine MetFree.of_bodyS (code := cc) (maxLocals := maxL) (ret := ret) hy ?_ ?_
  · intro args s m h hn
    obtain ⟨meth, c, h1, h2, h3, h4, h5, h6, -, -⟩ := Cond.code_spec hn (atoms_spec (ws := ws) h _ (by rw [hw]; exact List.mem_cons_self))
    exact ⟨meth, c, h1, h2, h3, h4, h5, h6⟩
  · intro p e s m args below meth c s₁ B hml hP _
    have hh0 : s₁.heap = s.heap := by rw [B.state]; rfl
    have ht : ∀ x ∈ c.exceptionTable.toList, False := by
      obtain ⟨meth9, c9, h1, h2, -, -, -, -, h7, -⟩ := Cond.code_spec B.named (atoms_spec (ws := ws) B.pre _ (by rw [hw]; exact List.mem_cons_self))
      cases Option.some.inj (h1.symm.trans B.method)
      cases Option.some.inj (h2.symm.trans (Stand.of_body B).code)
      intro x hx
      rw [Array.isEmpty_iff.mp h7] at hx
      cases hx
    obtain ⟨t, a1, o, b1, b2, b3⟩ := body p e s m args below meth c s₁ B hml ht hP s₁ hh0 (Stand.of_body B)
    exact ⟨t, o, a1, b1, b2, b3⟩
/-- the table of a body with handlers -/
theorem vx_table {p : Program} {x y : MethodName} {S : Spec} {cc bytes : ByteArray} {maxL maxL' : Nat} {ret ret' : Option FieldType} {e : Env} {s s₁ : State} {m : MethodId} {args : Array Value} {below : List Frame} {meth : Method} {c : Code} {hh : List (Nat × Nat × Nat × Nat)}
    (B : BodyLoose p l y S cc maxL ret e s m args below meth c s₁) (h : (Cond.codeWith y bytes maxL' ret' hh).before args s = true) : c.exceptionTable.toList = tableOf hh := by
  obtain ⟨m9, meth9, c9, hn9, h1, h2, -, -, h6, -⟩ := Cond.codeWith_spec h
  cases Option.some.inj (hn9.symm.trans B.named)
  cases Option.some.inj (h1.symm.trans B.method)
  cases Option.some.inj (h2.symm.trans (Stand.of_body B).code)
  rw [← h6, table_eq]
end Bodies
end VXA
/-! ===== END ===== -/
/-! ===== BEGIN a static call of a method with an exception table ===== -/
section VXS
variable {p : Program} {l : Launch} {e : Env} {R : Room} {s : State} {m : MethodId} {args : Array Value} {below : List Frame} {meth : Method} {c : Code} {T : State} {H : Heap} {locs : List Loc} {cells slots : Nat}
abbrev vx_CSW (R : Room) (s : State) (args : Array Value) (own : String) (index : Nat) (y : MethodName) (bytes : ByteArray) (maxL : Nat) (ret : Option FieldType) (hh : List (Nat × Nat × Nat × Nat)) (ws : List Cond) (rm : Room) (mc ms n : Nat) : Prop :=
  (rm.cells = mc ∧ rm.slots = ms ∧ rm.frames + 1 ≤ R.frames ∧ 8 + (maxL + 11) + rm.locals ≤ R.locals ∧ (∀ w ∈ ws, ∀ (a' : Array Value) (U : State), s.WarmedH U.vm → w.before a' U = true) ∧ Cond.codeWith y bytes maxL ret hh ∈ ws) ∧
  (Cond.codeWith y bytes maxL ret hh).before args s = true ∧ (Cond.initialized y.cls).before args s = true ∧ (y.cls ≠ "java/lang/invoke/MethodHandle" ∧ y.cls ≠ "java/lang/invoke/VarHandle") ∧
  (∀ sig, parseMethodDescriptor y.desc = some sig → n = sig.parameters.length) ∧ (Cond.methodLink own index y).before args s = true ∧ (Cond.static y).before args s = true
theorem vx_cwSW {own : String} {index maxL mc ms : Nat} {y : MethodName} {bytes : ByteArray} {ret : Option FieldType} {hh : List (Nat × Nat × Nat × Nat)} {Ts ws ws' : List Cond} {rm : Room} (n : Nat) (ht : ∀ w ∈ Ts, w.before args s = true) (hT : GoodIn Ts (va_wsS own index y ws)) (hw : ws = Cond.codeWith y bytes maxL ret hh :: ws') (hrc : rm.cells = mc) (hrs : rm.slots = ms)
    (hd : y.cls ≠ "java/lang/invoke/MethodHandle" ∧ y.cls ≠ "java/lang/invoke/VarHandle" ∧ (parseMethodDescriptor y.desc).map (fun d => d.parameters.length) = some n) (hR : rm.frames + 1 ≤ R.frames ∧ 8 + (maxL + 11) + rm.locals ≤ R.locals) :
    vx_CSW R s args own index y bytes maxL ret hh ws rm mc ms n := by
  have ok : ∀ w ∈ va_wsS own index y ws, w.before args s = true := fun w h => ht w (hT w h).1
  have hG : GoodIn Ts ws := fun w h => hT w (by unfold va_wsS; exact List.mem_append_right _ h)
  have hc : Cond.codeWith y bytes maxL ret hh ∈ ws := by rw [hw]; exact List.mem_cons_self
  refine ⟨⟨hrc, hrs, hR.1, hR.2, pay_in ht hG, hc⟩, ht _ (hG _ hc).1, ok _ (by simp [va_wsS]), ⟨hd.1, hd.2.1⟩, fun sig h => ?_, ok _ (by simp [va_wsS]), ok _ (by simp [va_wsS])⟩
  have h2 := hd.2.2
  rw [h] at h2
  exact (Option.some.inj h2).symm
theorem vx_callSW (X : Stand p l e R s m args below meth c T locs cells slots) (hexec : p.tables.exec = Jvm.exec) {own : String} {index : Nat} {y : MethodName} {bytes : ByteArray} {maxL : Nat} {ret : Option FieldType} {hh : List (Nat × Nat × Nat × Nat)}
    (hown : s.vm.findClass own = some m.cls) (hlink : (Cond.methodLink own index y).before args s = true) (hstat : (Cond.static y).before args s = true) (hinit : (Cond.initialized y.cls).before args s = true)
    (hcode : (Cond.codeWith y bytes maxL ret hh).before args s = true) (hy : y.cls ≠ "java/lang/invoke/MethodHandle" ∧ y.cls ≠ "java/lang/invoke/VarHandle")
    {W9 : Nat} {Pre : Pt → Array Value → Prop} {Post : Pt → Array Value → Option Value → Pt → Prop} (hK : Back l R p e below s args y 3 W9 Pre Post)
    {g : JFrame} (hg : g.method = m) (hsize : g.locals.size = c.maxLocals) {argsL rest : List Value} (hlen : ∀ sig, parseMethodDescriptor y.desc = some sig → argsL.length = sig.parameters.length)
    (hstack : g.stack = argsL.reverse ++ rest) (hW : 2 * g.monitorRoom + (rest.map fun v => v.category).sum ≤ W9) (hdg : decode c.code g.pc = .ok (.invokestatic index, 3))
    (hpre : ∀ vm₁, s.WarmedH vm₁ → Pre ⟨T.setVm vm₁, locs, cells, slots⟩ argsL.toArray) :
    ∃ (v : Option Value) (vm₁ : Vm) (B : Pt), s.WarmedH vm₁ ∧ Stand p l e R s m args below meth c B.U B.locs B.cells B.slots ∧ Post ⟨T.setVm vm₁, locs, cells, slots⟩ argsL.toArray v B ∧
      ∀ target, Steps p.tables e below (B.U.setTop { g with pc := g.pc + 3, stack := v.toList ++ rest }) target → Steps p.tables e below (T.setTop g) target := by
  obtain ⟨mk, methM, cM, hnamed, hmethM, -, -, -, -, -, -, hsigM⟩ := Cond.codeWith_spec hcode
  have hstatic : methM.isStatic = true := Cond.static_spec hnamed hmethM hstat
  obtain ⟨kP, hkP, -⟩ := className_of_methodNamed hnamed
  have hinitP : kP.init = .initialized := Cond.initialized_spec (findClass_of_methodNamed hnamed) hkP hinit
  obtain ⟨vm₁, X₁, hstep₁⟩ := X.invokestatic hexec hown hlink hnamed hmethM hstatic hkP hinitP hy (g := g) hg (argsL := argsL) (rest := rest) (hlen _ hsigM) hstack hdg
  obtain ⟨v, B, X', hpost, hsteps⟩ := hK m meth c ⟨T.setVm vm₁, locs, cells, slots⟩ { g with stack := rest } (.invokestatic index) mk argsL.toArray X₁ hg hsize hdg hW (X₁.named hnamed) (hpre vm₁ X₁.warmed)
  exact ⟨v, vm₁, B, X₁.warmed, X', hpost, fun target h => hstep₁ _ fun acts => by rw [doInvoke_state]; exact hsteps.trans h⟩
theorem vx_runSW {y : MethodName} {bytes cc : ByteArray} {maxL nL mc ms n index : Nat} {ret : Option FieldType} {hh : List (Nat × Nat × Nat × Nat)} {ws : List Cond} {rm : Room} {Pc : Array Value → State → Prop} {Qc : Array Value → State → Outcome → State → Prop} {free : Addr → Prop} {Ts : List Cond} {own : String} {As rest : List Value} {g : JFrame}
    (S : CallFix p m c cc nL s args Ts own) (hM : Met l y ws rm Pc Qc mc ms free) (cw : vx_CSW R s args own index y bytes maxL ret hh ws rm mc ms n) (hp : PreS s H Pc As)
    (hg : g.method = m) (hn : As.length = n) (hsize : g.locals.size = nL) (hstack : g.stack = As.reverse ++ rest) (hW : 2 * g.monitorRoom + (rest.map fun v => v.category).sum ≤ 8) (hdg : decode cc g.pc = .ok (.invokestatic index, 3)) (hf : cells + mc ≤ R.cells ∧ slots + ms ≤ R.slots) :
    va_Run p l e R s m args below meth c H locs cells slots mc ms g rest (Qc As.toArray) (free) := by
  obtain ⟨⟨hrc, hrs, hfr, hlo, hws, hcw⟩, hcode, hini, hy, hlen, hl, hstt⟩ := cw
  have hK : Back l R p e below s args y 3 8 (PreOf R mc ms Pc) (PostOf Qc mc ms free) := va_backW (hh := hh) (bytes := bytes) (maxL := maxL) (ret := ret) hM hp.1 hrc hrs hfr hlo hws hcw (fun a' U hW => word_at hW (Or.inl (by first | rfl | simp [Cond.onTables, Cond.keeps, Cond.steady])) hini)
  obtain ⟨hx, hb, hml, ho, -⟩ := S
  intro T hT X
  obtain ⟨v, vm₁, ⟨U', l2, c2, s2⟩, hW₁, X', ⟨g', mk, t, L, e1, e2, hq, h1, hL, h2, h3⟩, st⟩ := vx_callSW X hx (hh := hh) (bytes := bytes) (maxL := maxL) (ret := ret) ho hl hstt hini hcode hy hK hg (hsize.trans hml.symm) (argsL := As) (rest := rest) (fun sig h => hn.trans (hlen sig h)) hstack hW (by rw [hb]; exact hdg)
    (fun vm₁ hW₁ => ⟨hf.1, hf.2, hp.2 (T.setVm vm₁) hT hW₁⟩)
  dsimp only [Pt.U, Pt.locs, Pt.cells, Pt.slots] at X' e1 e2 h1 h2 h3 st
  subst h1; subst h2; subst h3
  exact ⟨v, (T.setVm vm₁).calling g' mk As.toArray, t, U', L, hT, X', hL, e1, e2, hq, st⟩
/-- not caught here, past rows that name other classes: it goes on to the caller -/
theorem vx_outP {p : Program} {l : Launch} {e : Env} {R : Room} {s : State} {m : MethodId} {args : Array Value} {below : List Frame} {meth : Method} {c : Code} {H : Heap} {locs : List Loc} {cells slots : Nat} {free : Addr → Prop} {ls : Array Slot} {rest : List Value} {Qc : Array Value → State → Outcome → State → Prop} {XC : String → State → State → Prop}
    {pc : Nat} {own E : String} {ce : Cell} {q : Addr} {mc ms : Nat} (hown : s.vm.findClass own = some m.cls) (hlocks : meth.locks = false)
    (hpass : ∀ z ∈ c.exceptionTable.toList, covers z pc = false ∨ (z.catchType ≠ 0 ∧ ∃ nm : String, (Cond.classLink own z.catchType nm).before args s = true ∧ va_Nc E nm s)) (hcell : H[q]? = some ce) (hv : ce.vm = .none) (hcl : s.vm.findClass E = some ce.cls)
    (hx : ∀ t : State, t.heap = H → s.vm.Alike t.vm → XC E s t) (hf : ∀ z ∈ locs, free z.base) (hc : cells ≤ mc) (hs : slots ≤ ms) :
    vx_W p l e R s m args below meth c H locs cells slots (vx_MQ below Qc XC args s mc ms free) (F0 m pc ls rest) q := by
  intro T hT X
  have hpl : e.platform.magicAccessors = ({} : Platform).magicAccessors := by rw [X.admits.platform]
  obtain ⟨vm', hW', X', st⟩ := X.outThrough hlocks q (g := F0 m pc ls rest) rfl rfl rfl (cell := ce) (by rw [hT]; exact hcell) (by rw [hv]; rfl)
    (by obtain ⟨k9, h9, -⟩ := Vm.findClass_spec hcl; exact ⟨k9, h9⟩) (fun z hz => by
      rcases hpass z hz with h | ⟨hz0, nm, hl1, hn1⟩
      · exact Or.inl h
      · obtain ⟨c6, hc6, hcl6⟩ := Cond.classLink_spec hown hl1 e.platform hpl
        obtain ⟨a8, b8, h1, h2, h3⟩ := hn1
        cases Option.some.inj (h1.symm.trans hcl)
        cases Option.some.inj (h2.symm.trans hc6)
        exact Or.inr ⟨hz0, _, hcl6, h3⟩)
  obtain ⟨g₀, hfr⟩ := X'.frames_eq
  have hcell9 : ((T.setVm vm').setFrames (.throwing q :: below)).heap[q]? = some ce := by
    show T.heap[q]? = some ce
    rw [hT]; exact hcell
  have hend : Ended ((T.setVm vm').setFrames (.throwing q :: below)) below (.threw q) := State.frames_setFrames _ (State.cur_lt_of_frames hfr)
  refine ⟨(T.setVm vm').setFrames (.throwing q :: below), ?_, .threw q, X'.here.running, hend, Or.inr ⟨q, rfl, E, ce, locs, hx _ hT (X'.ends _).1.alike, hcell9, hv, hcl, (X'.ends _).1, (X'.ends _).2.mono hc hs, hf⟩⟩
  rw [X.pushThrowing_eq]
  exact st
/-- a thing of a world lies in the heap -/
theorem vx_lt {D : va_G} {cl : List vw_C} {ws : va_W} {H1 : Heap} (h : va_P D cl ws H1) {k : Nat} {q : Nat × va_E} (hk : ws[k]? = some q) : q.1 < H1.size := (h k q hk).lt
end VXS
/-! ===== END ===== -/
/-! ===== BEGIN methods with a table of their own: called by a name, returning or throwing ===== -/
section VXH
/-! vx_backW, vx_callVX, vx_callSX, vx_callVW, vx_runVW, vx_runVX, vx_runSX, vx_ofWH follow the same proofs as their sisters above (Free/Laws.lean, Shelf42/LK1.lean); vx_outP calls Shelf42/NT130.lean (outThrough). -/
section
variable {l : Launch} {R : Room} {p : Program} {e : Env} {below : List Frame} {s : State} {sargs : Array Value} {y : MethodName} {len W9 : Nat}
theorem vx_backW {ws : List Cond} {rm : Room} {Pc : Array Value → State → Prop} {Qc : Array Value → State → Outcome → State → Prop} {XC : String → State → State → Prop} {mc ms : Nat} {free : Addr → Prop} {bytes : ByteArray} {maxL : Nat} {ret : Option FieldType} {hh : List (Nat × Nat × Nat × Nat)}
    (hM : vx_Met l y ws rm Pc Qc XC mc ms free) (hblind : FrameBlind Pc) (hrc : rm.cells = mc) (hrs : rm.slots = ms)
    (hframes : rm.frames + 1 ≤ R.frames) (hlocals : W9 + (maxL + 11) + rm.locals ≤ R.locals)
    (hws : ∀ w ∈ ws, ∀ a' U, s.WarmedH U.vm → w.before a' U = true) (hcode : Cond.codeWith y bytes maxL ret hh ∈ ws) (hinit : ∀ a' U, s.WarmedH U.vm → (Cond.initialized y.cls).before a' U = true) :
    vx_Back l R p e below s sargs y len W9 (PreOf R mc ms Pc) (PostOf Qc mc ms free) (vx_Post XC mc ms free) := by
  intro m meth c A g ig mk a X hg hsize hdg hW hn hp
  have h1 : (headSpec ws rm).pre.before a A.U = true := atoms_intro fun w hw => hws w hw _ _ X.warmed
  have h2 : (Cond.codeWith y bytes maxL ret hh).before a A.U = true := hws _ hcode _ _ X.warmed
  have h3 : (Cond.initialized y.cls).before a A.U = true := hinit _ _ X.warmed
  have h4 : A.cells + (headSpec ws rm).room.cells ≤ R.cells := by rw [show (headSpec ws rm).room.cells = mc from hrc]; exact hp.1
  have h5 : A.slots + (headSpec ws rm).room.slots ≤ R.slots := by rw [show (headSpec ws rm).room.slots = ms from hrs]; exact hp.2.1
  have hPc : Pc a (A.U.calling g mk a) := hblind _ _ _ _ hp.2.2
  obtain ⟨U, Ls, c0, s0⟩ := A
  dsimp only [Pt.U, Pt.locs, Pt.cells, Pt.slots] at h1 h2 h3 h4 h5 X hn hPc ⊢
  obtain ⟨m9, methY, cY, hn9, hmY, hcY, -, hlY, -⟩ := Cond.codeWith_spec h2
  cases Option.some.inj (hn9.symm.trans hn)
  obtain ⟨kY, hkY, -⟩ := className_of_methodNamed hn
  have hinitY : kY.init = .initialized := Cond.initialized_spec (findClass_of_methodNamed hn) hkY h3
  have h : At U g.method c below := by rw [hg]; exact X.here
  have hlocals9 : W9 + (maxL + 11) + (headSpec ws rm).room.locals ≤ R.locals := hlocals
  have happ : (headSpec ws rm).appliesLoose y e.platform (U.calling g mk a) = true :=
    Spec.appliesLoose_calling (g := g) h hdg hn hkY hinitY
      (X.room_calling (g := g) (R' := (headSpec ws rm).room) hsize hmY hcY hframes (by rw [hlY]; omega) h4 h5) h1
  obtain ⟨mid, hmid⟩ := h.above
  have hfr : (U.setTop g).frames = (.java g :: mid) ++ below := by rw [State.frames_setTop' g h.top, hmid]; rfl
  obtain ⟨o, s₂, hsteps, -, hend, hq⟩ := Steps.callFree hM p X.admits X.cas X.clock (acts := []) hfr happ hPc trivial
  have hq' : vx_Q Qc XC mc ms free a (U.calling g mk a) o s₂ := hq
  rw [State.frames_setTop' g h.top] at hend
  obtain ⟨g₀, hg0⟩ := Option.isSome_iff_exists.mp h.top
  obtain ⟨r, hr⟩ := State.topJava?_eq_some.mp hg0
  have hr' : (({ U with heap := s₂.heap, slotsUsed := s₂.slotsUsed } : State).setVm s₂.vm).frames = .java g₀ :: r := hr
  rcases hq' with ⟨hqc, L, hfe, hL⟩ | ⟨q, rfl, E, ce, L, hx, hce, hcv, hcl, hW₂, hsm, hL⟩
  · obtain ⟨⟨v, rfl⟩, hW₂, e2, q2, q3, q4, q5, q6⟩ := id hfe
    have e3 : s₂ = ({ (U.calling g mk a).setFrames s₂.frames with heap := s₂.heap, slotsUsed := s₂.slotsUsed } : State).setVm s₂.vm := by
      have : s₂ = ({ s₂ with vm := (U.calling g mk a).vm } : State).setVm s₂.vm := rfl
      rw [e2] at this
      exact this
    obtain ⟨c₂, i₂, len₂, hc₂, hd₂, hf₂⟩ := hend
    have hW' : U.WarmedH s₂.vm := hW₂
    have hcc : c₂ = c := by
      have h1 : s₂.code? g.method = U.code? g.method := by
        rw [State.code?_eq, State.code?_eq, hW'.alike.method?]
      exact Option.some.inj (hc₂.symm.trans (h1.trans h.code))
    subst hcc
    have hlen : len₂ = len := by rw [hdg] at hd₂; cases hd₂; rfl
    subst hlen
    have hs₂ : s₂ = (({ U with heap := s₂.heap, slotsUsed := s₂.slotsUsed } : State).setVm s₂.vm).setTop { g with pc := g.pc + len₂, stack := v.toList ++ g.stack } := by
      refine e3.trans ?_
      rw [hf₂, State.calling_eq h.top, State.setFrames_setFrames, State.setTop_of_frames _ hr', hr]
      rfl
    have hsame : U.sameButNew ({ U with heap := s₂.heap, slotsUsed := s₂.slotsUsed } : State) L mc ms := by
      refine ⟨?_, q2, q3, q4, q5, q6⟩
      obtain ⟨t, ht, -⟩ := State.frames_cons hr
      show ({ U with heap := s₂.heap, slotsUsed := s₂.slotsUsed } : State) = { U.setFrames U.frames with heap := s₂.heap, slotsUsed := s₂.slotsUsed }
      rw [State.setFrames_self ht]
    subst hg
    refine Or.inl ⟨v, ⟨(({ U with heap := s₂.heap, slotsUsed := s₂.slotsUsed } : State).setVm s₂.vm), Ls ++ L, c0 + mc, s0 + ms⟩,
      ⟨X.admits, X.cas, X.clock, X.frames, X.room, X.hears, X.method, X.code, (X.here.setHeapUsed s₂.heap s₂.slotsUsed).setVm hW'.alike, X.tail, State.WarmedH.trans X.warmed hW', X.limits, X.bytes, X.same.trans (hsame.setVm s.vm)⟩,
      ⟨g, mk, s₂, L, rfl, rfl, hqc, rfl, hL, rfl, rfl⟩, ?_⟩
    show Steps p.tables e below _ ((({ U with heap := s₂.heap, slotsUsed := s₂.slotsUsed } : State).setVm s₂.vm).setTop { g with pc := g.pc + len₂, stack := v.toList ++ g.stack })
    rw [← hs₂]
    exact hsteps
  · obtain ⟨e2, q2, q3, q4, q5, q6⟩ := id hsm
    have e3 : s₂ = ({ (U.calling g mk a).setFrames s₂.frames with heap := s₂.heap, slotsUsed := s₂.slotsUsed } : State).setVm s₂.vm := by
      have : s₂ = ({ s₂ with vm := (U.calling g mk a).vm } : State).setVm s₂.vm := rfl
      rw [e2] at this
      exact this
    have hf₂ : s₂.frames = .throwing q :: .java g :: U.frames.tail := hend
    have hW' : U.WarmedH s₂.vm := hW₂
    have hs₂ : s₂ = ((({ U with heap := s₂.heap, slotsUsed := s₂.slotsUsed } : State).setVm s₂.vm).setTop g).pushFrame (.throwing q) := by
      refine e3.trans ?_
      rw [hf₂, State.calling_eq h.top, State.setFrames_setFrames, State.pushFrame, State.frames_setTop _ hr', State.setTop_of_frames _ hr', State.setFrames_setFrames, hr]
      rfl
    have hsame : U.sameButNew ({ U with heap := s₂.heap, slotsUsed := s₂.slotsUsed } : State) L mc ms := by
      refine ⟨?_, q2, q3, q4, q5, q6⟩
      obtain ⟨t, ht, -⟩ := State.frames_cons hr
      show ({ U with heap := s₂.heap, slotsUsed := s₂.slotsUsed } : State) = { U.setFrames U.frames with heap := s₂.heap, slotsUsed := s₂.slotsUsed }
      rw [State.setFrames_self ht]
    subst hg
    refine Or.inr ⟨q, ⟨(({ U with heap := s₂.heap, slotsUsed := s₂.slotsUsed } : State).setVm s₂.vm), Ls ++ L, c0 + mc, s0 + ms⟩,
      ⟨X.admits, X.cas, X.clock, X.frames, X.room, X.hears, X.method, X.code, (X.here.setHeapUsed s₂.heap s₂.slotsUsed).setVm hW'.alike, X.tail, State.WarmedH.trans X.warmed hW', X.limits, X.bytes, X.same.trans (hsame.setVm s.vm)⟩,
      ⟨g, mk, s₂, L, E, ce, rfl, rfl, hx, hce, hcv, hcl, rfl, hL, rfl, rfl⟩, ?_⟩
    show Steps p.tables e below _ (((({ U with heap := s₂.heap, slotsUsed := s₂.slotsUsed } : State).setVm s₂.vm).setTop g).pushFrame (.throwing q))
    rw [← hs₂]
    exact hsteps
end
variable {p : Program} {l : Launch} {e : Env} {R : Room} {s : State} {m : MethodId} {args : Array Value} {below : List Frame} {meth : Method} {c : Code} {T : State} {H : Heap} {locs : List Loc} {cells slots : Nat}
theorem vx_callVX (X : Stand p l e R s m args below meth c T locs cells slots) (hexec : p.tables.exec = Jvm.exec) {own C : String} {index : Nat} {y : MethodName} {bytes : ByteArray} {maxL : Nat} {ret : Option FieldType} {hh : List (Nat × Nat × Nat × Nat)}
    (hown : s.vm.findClass own = some m.cls) (hlink : (Cond.methodLink own index y).before args s = true) (hinst : (Cond.instanceMethod y).before args s = true) (hsel : (Cond.selects C y y).before args s = true)
    (hcode : (Cond.codeWith y bytes maxL ret hh).before args s = true) (hy : y.cls ≠ "java/lang/invoke/MethodHandle" ∧ y.cls ≠ "java/lang/invoke/VarHandle")
    {W9 : Nat} {Pre : Pt → Array Value → Prop} {Post : Pt → Array Value → Option Value → Pt → Prop} {PostX : Pt → Array Value → Addr → Pt → Prop} (hK : vx_Back l R p e below s args y 3 W9 Pre Post PostX)
    {b : Addr} {cellB : Cell} (hcell : T.heap[b]? = some cellB) (hobj : cellB.vm.isStatics = false) (hcls : s.vm.findClass C = some cellB.cls)
    {g : JFrame} (hg : g.method = m) (hsize : g.locals.size = c.maxLocals) {argsL rest : List Value} (hlen : ∀ sig, parseMethodDescriptor y.desc = some sig → argsL.length = sig.parameters.length)
    (hstack : g.stack = argsL.reverse ++ .ref b :: rest) (hW : 2 * g.monitorRoom + (rest.map fun v => v.category).sum ≤ W9) (hdg : decode c.code g.pc = .ok (.invokevirtual index, 3))
    (hpre : ∀ vm₁, s.WarmedH vm₁ → Pre ⟨T.setVm vm₁, locs, cells, slots⟩ (Value.ref b :: argsL).toArray) :
    (∃ (v : Option Value) (vm₁ : Vm) (B : Pt), s.WarmedH vm₁ ∧ Stand p l e R s m args below meth c B.U B.locs B.cells B.slots ∧ Post ⟨T.setVm vm₁, locs, cells, slots⟩ (Value.ref b :: argsL).toArray v B ∧
      ∀ target, Steps p.tables e below (B.U.setTop { g with pc := g.pc + 3, stack := v.toList ++ rest }) target → Steps p.tables e below (T.setTop g) target) ∨
    (∃ (q : Addr) (vm₁ : Vm) (B : Pt), s.WarmedH vm₁ ∧ Stand p l e R s m args below meth c B.U B.locs B.cells B.slots ∧ PostX ⟨T.setVm vm₁, locs, cells, slots⟩ (Value.ref b :: argsL).toArray q B ∧
      Steps p.tables e below (T.setTop g) ((B.U.setTop { g with stack := rest }).pushFrame (.throwing q))) := by
  obtain ⟨mk, methM, hnamed, hmethM, hstM, habM⟩ := Cond.instanceMethod_spec hinst
  obtain ⟨m8, methM', cM, hn8, hmethM', -, -, -, -, -, -, hsigM⟩ := Cond.codeWith_spec hcode
  cases Option.some.inj (hn8.symm.trans hnamed)
  cases hmethM.symm.trans hmethM'
  obtain ⟨c2, r2, m2, q1, q2, q3, q4, kP, hkP, hkPi⟩ := Cond.selects_spec hsel
  cases hcls.symm.trans q1
  cases (State.methodFound?_of_named hnamed hy).symm.trans q2
  cases hnamed.symm.trans q3
  have hselP : selectMethod e.platform s.vm cellB.cls mk = .method mk := by rw [Launch.admits_selectMethod X.admits]; exact q4
  obtain ⟨vm₁, X₁, hstep₁⟩ := X.invokevirtual hexec hown hlink hnamed hmethM hstM hkP hkPi hy (a := b) (cell := cellB) hcell
    (fun z h => by rw [h] at hobj; cases hobj) hselP hmethM habM hkP hkPi (g := g) hg (argsL := argsL) (rest := rest) (hlen _ hsigM) hstack hdg
  rcases hK m meth c ⟨T.setVm vm₁, locs, cells, slots⟩ { g with stack := rest } (.invokevirtual index) mk (Value.ref b :: argsL).toArray X₁ hg hsize hdg hW (X₁.named hnamed) (hpre vm₁ X₁.warmed) with ⟨v, B, X', hpost, hsteps⟩ | ⟨q, B, X', hpost, hsteps⟩
  · exact Or.inl ⟨v, vm₁, B, X₁.warmed, X', hpost, fun target h => hstep₁ _ fun acts => by rw [doInvoke_state]; exact hsteps.trans h⟩
  · exact Or.inr ⟨q, vm₁, B, X₁.warmed, X', hpost, hstep₁ _ fun acts => by rw [doInvoke_state]; exact hsteps⟩
theorem vx_callSX (X : Stand p l e R s m args below meth c T locs cells slots) (hexec : p.tables.exec = Jvm.exec) {own : String} {index : Nat} {y : MethodName} {bytes : ByteArray} {maxL : Nat} {ret : Option FieldType} {hh : List (Nat × Nat × Nat × Nat)}
    (hown : s.vm.findClass own = some m.cls) (hlink : (Cond.methodLink own index y).before args s = true) (hstat : (Cond.static y).before args s = true) (hinit : (Cond.initialized y.cls).before args s = true)
    (hcode : (Cond.codeWith y bytes maxL ret hh).before args s = true) (hy : y.cls ≠ "java/lang/invoke/MethodHandle" ∧ y.cls ≠ "java/lang/invoke/VarHandle")
    {W9 : Nat} {Pre : Pt → Array Value → Prop} {Post : Pt → Array Value → Option Value → Pt → Prop} {PostX : Pt → Array Value → Addr → Pt → Prop} (hK : vx_Back l R p e below s args y 3 W9 Pre Post PostX)
    {g : JFrame} (hg : g.method = m) (hsize : g.locals.size = c.maxLocals) {argsL rest : List Value} (hlen : ∀ sig, parseMethodDescriptor y.desc = some sig → argsL.length = sig.parameters.length)
    (hstack : g.stack = argsL.reverse ++ rest) (hW : 2 * g.monitorRoom + (rest.map fun v => v.category).sum ≤ W9) (hdg : decode c.code g.pc = .ok (.invokestatic index, 3))
    (hpre : ∀ vm₁, s.WarmedH vm₁ → Pre ⟨T.setVm vm₁, locs, cells, slots⟩ argsL.toArray) :
    (∃ (v : Option Value) (vm₁ : Vm) (B : Pt), s.WarmedH vm₁ ∧ Stand p l e R s m args below meth c B.U B.locs B.cells B.slots ∧ Post ⟨T.setVm vm₁, locs, cells, slots⟩ argsL.toArray v B ∧
      ∀ target, Steps p.tables e below (B.U.setTop { g with pc := g.pc + 3, stack := v.toList ++ rest }) target → Steps p.tables e below (T.setTop g) target) ∨
    (∃ (q : Addr) (vm₁ : Vm) (B : Pt), s.WarmedH vm₁ ∧ Stand p l e R s m args below meth c B.U B.locs B.cells B.slots ∧ PostX ⟨T.setVm vm₁, locs, cells, slots⟩ argsL.toArray q B ∧
      Steps p.tables e below (T.setTop g) ((B.U.setTop { g with stack := rest }).pushFrame (.throwing q))) := by
  obtain ⟨mk, methM, cM, hnamed, hmethM, -, -, -, -, -, -, hsigM⟩ := Cond.codeWith_spec hcode
  have hstatic : methM.isStatic = true := Cond.static_spec hnamed hmethM hstat
  obtain ⟨kP, hkP, -⟩ := className_of_methodNamed hnamed
  have hinitP : kP.init = .initialized := Cond.initialized_spec (findClass_of_methodNamed hnamed) hkP hinit
  obtain ⟨vm₁, X₁, hstep₁⟩ := X.invokestatic hexec hown hlink hnamed hmethM hstatic hkP hinitP hy (g := g) hg (argsL := argsL) (rest := rest) (hlen _ hsigM) hstack hdg
  rcases hK m meth c ⟨T.setVm vm₁, locs, cells, slots⟩ { g with stack := rest } (.invokestatic index) mk argsL.toArray X₁ hg hsize hdg hW (X₁.named hnamed) (hpre vm₁ X₁.warmed) with ⟨v, B, X', hpost, hsteps⟩ | ⟨q, B, X', hpost, hsteps⟩
  · exact Or.inl ⟨v, vm₁, B, X₁.warmed, X', hpost, fun target h => hstep₁ _ fun acts => by rw [doInvoke_state]; exact hsteps.trans h⟩
  · exact Or.inr ⟨q, vm₁, B, X₁.warmed, X', hpost, hstep₁ _ fun acts => by rw [doInvoke_state]; exact hsteps⟩
theorem vx_callVW (X : Stand p l e R s m args below meth c T locs cells slots) (hexec : p.tables.exec = Jvm.exec) {own C : String} {index : Nat} {y : MethodName} {bytes : ByteArray} {maxL : Nat} {ret : Option FieldType} {hh : List (Nat × Nat × Nat × Nat)}
    (hown : s.vm.findClass own = some m.cls) (hlink : (Cond.methodLink own index y).before args s = true) (hinst : (Cond.instanceMethod y).before args s = true) (hsel : (Cond.selects C y y).before args s = true)
    (hcode : (Cond.codeWith y bytes maxL ret hh).before args s = true) (hy : y.cls ≠ "java/lang/invoke/MethodHandle" ∧ y.cls ≠ "java/lang/invoke/VarHandle")
    {W9 : Nat} {Pre : Pt → Array Value → Prop} {Post : Pt → Array Value → Option Value → Pt → Prop} (hK : Back l R p e below s args y 3 W9 Pre Post)
    {b : Addr} {cellB : Cell} (hcell : T.heap[b]? = some cellB) (hobj : cellB.vm.isStatics = false) (hcls : s.vm.findClass C = some cellB.cls)
    {g : JFrame} (hg : g.method = m) (hsize : g.locals.size = c.maxLocals) {argsL rest : List Value} (hlen : ∀ sig, parseMethodDescriptor y.desc = some sig → argsL.length = sig.parameters.length)
    (hstack : g.stack = argsL.reverse ++ .ref b :: rest) (hW : 2 * g.monitorRoom + (rest.map fun v => v.category).sum ≤ W9) (hdg : decode c.code g.pc = .ok (.invokevirtual index, 3))
    (hpre : ∀ vm₁, s.WarmedH vm₁ → Pre ⟨T.setVm vm₁, locs, cells, slots⟩ (Value.ref b :: argsL).toArray) :
    ∃ (v : Option Value) (vm₁ : Vm) (B : Pt), s.WarmedH vm₁ ∧ Stand p l e R s m args below meth c B.U B.locs B.cells B.slots ∧ Post ⟨T.setVm vm₁, locs, cells, slots⟩ (Value.ref b :: argsL).toArray v B ∧
      ∀ target, Steps p.tables e below (B.U.setTop { g with pc := g.pc + 3, stack := v.toList ++ rest }) target → Steps p.tables e below (T.setTop g) target := by
  obtain ⟨mk, methM, hnamed, hmethM, hstM, habM⟩ := Cond.instanceMethod_spec hinst
  obtain ⟨m8, methM', cM, hn8, hmethM', -, -, -, -, -, -, hsigM⟩ := Cond.codeWith_spec hcode
  cases Option.some.inj (hn8.symm.trans hnamed)
  cases hmethM.symm.trans hmethM'
  obtain ⟨c2, r2, m2, q1, q2, q3, q4, kP, hkP, hkPi⟩ := Cond.selects_spec hsel
  cases hcls.symm.trans q1
  cases (State.methodFound?_of_named hnamed hy).symm.trans q2
  cases hnamed.symm.trans q3
  have hselP : selectMethod e.platform s.vm cellB.cls mk = .method mk := by rw [Launch.admits_selectMethod X.admits]; exact q4
  obtain ⟨vm₁, X₁, hstep₁⟩ := X.invokevirtual hexec hown hlink hnamed hmethM hstM hkP hkPi hy (a := b) (cell := cellB) hcell
    (fun z h => by rw [h] at hobj; cases hobj) hselP hmethM habM hkP hkPi (g := g) hg (argsL := argsL) (rest := rest) (hlen _ hsigM) hstack hdg
  obtain ⟨v, B, X', hpost, hsteps⟩ := hK m meth c ⟨T.setVm vm₁, locs, cells, slots⟩ { g with stack := rest } (.invokevirtual index) mk (Value.ref b :: argsL).toArray X₁ hg hsize hdg hW (X₁.named hnamed) (hpre vm₁ X₁.warmed)
  exact ⟨v, vm₁, B, X₁.warmed, X', hpost, fun target h => hstep₁ _ fun acts => by rw [doInvoke_state]; exact hsteps.trans h⟩
abbrev vx_CVW (R : Room) (s : State) (args : Array Value) (own C : String) (index : Nat) (y : MethodName) (bytes : ByteArray) (maxL : Nat) (ret : Option FieldType) (hh : List (Nat × Nat × Nat × Nat)) (ws : List Cond) (rm : Room) (mc ms n : Nat) : Prop :=
  (rm.cells = mc ∧ rm.slots = ms ∧ rm.frames + 1 ≤ R.frames ∧ 8 + (maxL + 11) + rm.locals ≤ R.locals ∧ (∀ w ∈ ws, ∀ (a' : Array Value) (U : State), s.WarmedH U.vm → w.before a' U = true) ∧ Cond.codeWith y bytes maxL ret hh ∈ ws) ∧
  (Cond.codeWith y bytes maxL ret hh).before args s = true ∧ (Cond.initialized y.cls).before args s = true ∧ (y.cls ≠ "java/lang/invoke/MethodHandle" ∧ y.cls ≠ "java/lang/invoke/VarHandle") ∧
  (∀ sig, parseMethodDescriptor y.desc = some sig → n = sig.parameters.length) ∧ (Cond.methodLink own index y).before args s = true ∧ (Cond.instanceMethod y).before args s = true ∧ (Cond.selects C y y).before args s = true
theorem vx_cwVW {own C : String} {index maxL mc ms : Nat} {y : MethodName} {bytes : ByteArray} {ret : Option FieldType} {hh : List (Nat × Nat × Nat × Nat)} {Ts ws ws' : List Cond} {rm : Room} (n : Nat) (ht : ∀ w ∈ Ts, w.before args s = true) (hT : GoodIn Ts (wsV own index C y ws)) (hw : ws = Cond.codeWith y bytes maxL ret hh :: ws') (hrc : rm.cells = mc) (hrs : rm.slots = ms)
    (hd : y.cls = C ∧ y.cls ≠ "java/lang/invoke/MethodHandle" ∧ y.cls ≠ "java/lang/invoke/VarHandle" ∧ (parseMethodDescriptor y.desc).map (fun d => d.parameters.length) = some n) (hR : rm.frames + 1 ≤ R.frames ∧ 8 + (maxL + 11) + rm.locals ≤ R.locals) :
    vx_CVW R s args own C index y bytes maxL ret hh ws rm mc ms n := by
  obtain ⟨hC, hd⟩ := hd
  subst hC
  have ok : ∀ w ∈ wsV own index y.cls y ws, w.before args s = true := fun w h => ht w (hT w h).1
  have hG : GoodIn Ts ws := fun w h => hT w (by unfold wsV; exact List.mem_append_right _ h)
  have hc : Cond.codeWith y bytes maxL ret hh ∈ ws := by rw [hw]; exact List.mem_cons_self
  refine ⟨⟨hrc, hrs, hR.1, hR.2, pay_in ht hG, hc⟩, ht _ (hG _ hc).1, ok _ (by simp [wsV]), ⟨hd.1, hd.2.1⟩, fun sig h => ?_, ok _ (by simp [wsV]), ok _ (by simp [wsV]), ok _ (by simp [wsV])⟩
  have h2 := hd.2.2
  rw [h] at h2
  exact (Option.some.inj h2).symm
theorem vx_runVW {y : MethodName} {bytes cc : ByteArray} {maxL nL mc ms n index : Nat} {ret : Option FieldType} {hh : List (Nat × Nat × Nat × Nat)} {ws : List Cond} {rm : Room} {Pc : Array Value → State → Prop} {Qc : Array Value → State → Outcome → State → Prop} {free : Addr → Prop} {Ts : List Cond} {own C : String} {b : Addr} {As rest : List Value} {g : JFrame}
    (S : CallFix p m c cc nL s args Ts own) (hM : Met l y ws rm Pc Qc mc ms free) (cw : vx_CVW R s args own C index y bytes maxL ret hh ws rm mc ms n) (hp : PreV s H C b Pc As)
    (hg : g.method = m) (hn : As.length = n) (hsize : g.locals.size = nL) (hstack : g.stack = As.reverse ++ .ref b :: rest) (hW : 2 * g.monitorRoom + (rest.map fun v => v.category).sum ≤ 8) (hdg : decode cc g.pc = .ok (.invokevirtual index, 3)) (hf : cells + mc ≤ R.cells ∧ slots + ms ≤ R.slots) :
    va_Run p l e R s m args below meth c H locs cells slots mc ms g rest (Qc (Value.ref b :: As).toArray) free := by
  obtain ⟨⟨hrc, hrs, hfr, hlo, hws, hcw⟩, hcode, hini, hy, hlen, hl, hin, hse⟩ := cw
  have hK : Back l R p e below s args y 3 8 (PreOf R mc ms Pc) (PostOf Qc mc ms free) := va_backW (hh := hh) (bytes := bytes) (maxL := maxL) (ret := ret) hM hp.1 hrc hrs hfr hlo hws hcw (fun a' U hW => word_at hW (Or.inl (by first | rfl | simp [Cond.onTables, Cond.keeps, Cond.steady])) hini)
  obtain ⟨hx, hb, hml, ho, -⟩ := S
  obtain ⟨-, ⟨cellB, hcB, hoB, hclB⟩, hPc⟩ := hp
  intro T hT X
  obtain ⟨v, vm₁, ⟨U', l2, c2, s2⟩, hW₁, X', ⟨g', mk, t, L, e1, e2, hq, h1, hL, h2, h3⟩, st⟩ := vx_callVW X hx (C := C) (hh := hh) (bytes := bytes) (maxL := maxL) (ret := ret) ho hl hin hse hcode hy hK (by rw [hT]; exact hcB) hoB hclB hg (hsize.trans hml.symm) (argsL := As) (rest := rest) (fun sig h => hn.trans (hlen sig h)) hstack hW (by rw [hb]; exact hdg)
    (fun vm₁ hW₁ => ⟨hf.1, hf.2, hPc (T.setVm vm₁) hT hW₁⟩)
  dsimp only [Pt.U, Pt.locs, Pt.cells, Pt.slots] at X' e1 e2 h1 h2 h3 st
  subst h1; subst h2; subst h3
  exact ⟨v, (T.setVm vm₁).calling g' mk (Value.ref b :: As).toArray, t, U', L, hT, X', hL, e1, e2, hq, st⟩
section
variable {y : MethodName} {bytes cc : ByteArray} {maxL nL mc ms n index : Nat} {ret : Option FieldType} {ws : List Cond} {rm : Room} {Pc : Array Value → State → Prop} {Qc : Array Value → State → Outcome → State → Prop} {XC : String → State → State → Prop} {free : Addr → Prop} {Ts : List Cond} {own C : String} {b : Addr} {As rest : List Value} {g : JFrame}
theorem vx_runVX {hh : List (Nat × Nat × Nat × Nat)} (S : CallFix p m c cc nL s args Ts own) (hM : vx_Met l y ws rm Pc Qc XC mc ms free) (cw : vx_CVW R s args own C index y bytes maxL ret hh ws rm mc ms n) (hp : PreV s H C b Pc As)
    (hg : g.method = m) (hn : As.length = n) (hsize : g.locals.size = nL) (hstack : g.stack = As.reverse ++ .ref b :: rest) (hW : 2 * g.monitorRoom + (rest.map fun v => v.category).sum ≤ 8) (hdg : decode cc g.pc = .ok (.invokevirtual index, 3)) (hf : cells + mc ≤ R.cells ∧ slots + ms ≤ R.slots) :
    vx_Run p l e R s m args below meth c H locs cells slots mc ms g rest (Qc (Value.ref b :: As).toArray) XC free := by
  obtain ⟨⟨hrc, hrs, hfr, hlo, hws, hcw⟩, hcode, hini, hy, hlen, hl, hin, hse⟩ := cw
  have hK : vx_Back l R p e below s args y 3 8 (PreOf R mc ms Pc) (PostOf Qc mc ms free) (vx_Post XC mc ms free) := vx_backW (hh := hh) (bytes := bytes) (maxL := maxL) (ret := ret) hM hp.1 hrc hrs hfr hlo hws hcw (fun a' U hW => word_at hW (Or.inl (by first | rfl | simp [Cond.onTables, Cond.keeps, Cond.steady])) hini)
  obtain ⟨hx, hb, hml, ho, -⟩ := S
  obtain ⟨-, ⟨cellB, hcB, hoB, hclB⟩, hPc⟩ := hp
  intro T hT X
  rcases vx_callVX X hx (C := C) (hh := hh) (bytes := bytes) (maxL := maxL) (ret := ret) ho hl hin hse hcode hy hK (by rw [hT]; exact hcB) hoB hclB hg (hsize.trans hml.symm) (argsL := As) (rest := rest) (fun sig h => hn.trans (hlen sig h)) hstack hW (by rw [hb]; exact hdg)
    (fun vm₁ hW₁ => ⟨hf.1, hf.2, hPc (T.setVm vm₁) hT hW₁⟩) with ⟨v, vm₁, ⟨U', l2, c2, s2⟩, hW₁, X', ⟨g', mk, t, L, e1, e2, hq, h1, hL, h2, h3⟩, st⟩ | ⟨q, vm₁, ⟨U', l2, c2, s2⟩, hW₁, X', ⟨g', mk, t, L, E, ce, e1, e2, hq, hce, hcv, hcl, h1, hL, h2, h3⟩, st⟩
  · dsimp only [Pt.U, Pt.locs, Pt.cells, Pt.slots] at X' e1 e2 h1 h2 h3 st
    subst h1; subst h2; subst h3
    exact Or.inl ⟨v, (T.setVm vm₁).calling g' mk (Value.ref b :: As).toArray, t, U', L, hT, X', hL, e1, e2, hq, st⟩
  · dsimp only [Pt.U, Pt.locs, Pt.cells, Pt.slots] at X' e1 e2 h1 h2 h3 st hcl
    subst h1; subst h2; subst h3
    exact Or.inr ⟨q, (T.setVm vm₁).calling g' mk (Value.ref b :: As).toArray, t, U', L, E, ce, hT, X', hL, e1, e2, hq, hce, hcv, vx_cls hW₁ hcl, st⟩
theorem vx_runSX {hh : List (Nat × Nat × Nat × Nat)} (S : CallFix p m c cc nL s args Ts own) (hM : vx_Met l y ws rm Pc Qc XC mc ms free) (cw : vx_CSW R s args own index y bytes maxL ret hh ws rm mc ms n) (hp : PreS s H Pc As)
    (hg : g.method = m) (hn : As.length = n) (hsize : g.locals.size = nL) (hstack : g.stack = As.reverse ++ rest) (hW : 2 * g.monitorRoom + (rest.map fun v => v.category).sum ≤ 8) (hdg : decode cc g.pc = .ok (.invokestatic index, 3)) (hf : cells + mc ≤ R.cells ∧ slots + ms ≤ R.slots) :
    vx_Run p l e R s m args below meth c H locs cells slots mc ms g rest (Qc As.toArray) XC free := by
  obtain ⟨⟨hrc, hrs, hfr, hlo, hws, hcw⟩, hcode, hini, hy, hlen, hl, hstt⟩ := cw
  have hK : vx_Back l R p e below s args y 3 8 (PreOf R mc ms Pc) (PostOf Qc mc ms free) (vx_Post XC mc ms free) := vx_backW (hh := hh) (bytes := bytes) (maxL := maxL) (ret := ret) hM hp.1 hrc hrs hfr hlo hws hcw (fun a' U hW => word_at hW (Or.inl (by first | rfl | simp [Cond.onTables, Cond.keeps, Cond.steady])) hini)
  obtain ⟨hx, hb, hml, ho, -⟩ := S
  intro T hT X
  rcases vx_callSX X hx (hh := hh) (bytes := bytes) (maxL := maxL) (ret := ret) ho hl hstt hini hcode hy hK hg (hsize.trans hml.symm) (argsL := As) (rest := rest) (fun sig h => hn.trans (hlen sig h)) hstack hW (by rw [hb]; exact hdg)
    (fun vm₁ hW₁ => ⟨hf.1, hf.2, hp.2 (T.setVm vm₁) hT hW₁⟩) with ⟨v, vm₁, ⟨U', l2, c2, s2⟩, hW₁, X', ⟨g', mk, t, L, e1, e2, hq, h1, hL, h2, h3⟩, st⟩ | ⟨q, vm₁, ⟨U', l2, c2, s2⟩, hW₁, X', ⟨g', mk, t, L, E, ce, e1, e2, hq, hce, hcv, hcl, h1, hL, h2, h3⟩, st⟩
  · dsimp only [Pt.U, Pt.locs, Pt.cells, Pt.slots] at X' e1 e2 h1 h2 h3 st
    subst h1; subst h2; subst h3
    exact Or.inl ⟨v, (T.setVm vm₁).calling g' mk As.toArray, t, U', L, hT, X', hL, e1, e2, hq, st⟩
  · dsimp only [Pt.U, Pt.locs, Pt.cells, Pt.slots] at X' e1 e2 h1 h2 h3 st hcl
    subst h1; subst h2; subst h3
    exact Or.inr ⟨q, (T.setVm vm₁).calling g' mk As.toArray, t, U', L, E, ce, hT, X', hL, e1, e2, hq, hce, hcv, vx_cls hW₁ hcl, st⟩
end
end VXH
theorem vx_ofWH {l : Launch} {y : MethodName} {ws ws' : List Cond} {rm : Room} {Pc : Array Value → State → Prop} {Qc : Array Value → State → Outcome → State → Prop} {XC : String → State → State → Prop} {mc ms : Nat} {free : Addr → Prop} {cc : ByteArray} {maxL : Nat} {ret : Option FieldType} {hh : List (Nat × Nat × Nat × Nat)}
    (hy : plainName y.cls = true) (hw : ws = Cond.codeWith y cc maxL ret hh :: ws')
    (body : ∀ p e s m args below meth c s₁, BodyLoose p l y (headSpec ws rm) cc maxL ret e s m args below meth c s₁ → c.maxLocals = maxL → Pc args s →
      W p l e (headSpec ws rm).room s m args below meth c s.heap [] 0 0 (vx_MQ below Qc XC args s mc ms free) (entryFrame m args maxL)) : vx_Met l y ws rm Pc Qc XC mc ms free := by
  refine MetFree.of_bodyS (code := cc) (maxLocals := maxL) (ret := ret) hy ?_ ?_
  · intro args s m h hn
    obtain ⟨m9, meth, c, hn9, h1, h2, h3, h4, -, h5, h6, -⟩ := Cond.codeWith_spec (atoms_spec (ws := ws) h _ (by rw [hw]; exact List.mem_cons_self))
    cases hn.symm.trans hn9
    exact ⟨meth, c, h1, h2, h3, h4, h5, h6⟩
  · intro p e s m args below meth c s₁ B hml hP _
    have hh0 : s₁.heap = s.heap := by rw [B.state]; rfl
    obtain ⟨t, a1, o, b1, b2, b3⟩ := body p e s m args below meth c s₁ B hml hP s₁ hh0 (Stand.of_body B)
    exact ⟨t, o, a1, b1, b2, b3⟩
/-! ===== END ===== -/

/-! ===== BEGIN what the machine throws by itself, no traces kept ===== -/
section VXM
set_option maxHeartbeats 1000000 in
/-- the machine throws cls with the message text, no traces kept: from its note over the frame g to 'throwing' over the same frame (follows the proofs of Stand.vmThrowsMessage, Shelf/KitTracedVmS.lean, and Stand.throwsMessageColdBareV, StandMessageColdV.lean, without the step out of the frame) -/
theorem vx_vmAt {p : Program} {l : Launch} {e : Env} {R : Room} {s : State} {m₀ : MethodId} {args : Array Value} {below : List Frame} {meth : Method} {c : Code} {W : State} {locs : List Loc} {cells slots : Nat}
    (X : Stand p l e R s m₀ args below meth c W locs cells slots) (hexec : p.tables.exec = Jvm.exec) (htr : e.platform.stackTraces = false) {cls : String} {names : List String} {text : String}
    (hcls : Bundle.fit cls = true) (hnames : ∀ n ∈ names, Bundle.fit n = true) (hsoe : (cls == "java/lang/StackOverflowError") = false) (hoom : (cls == "java/lang/OutOfMemoryError") = false)
    (h : ∀ a ∈ Bundle.messageArmAtoms cls names, a.before args s = true)
    (hlocs : ∀ x ∈ locs, ∀ cell, s.heap[x.base]? = some cell → cell.vm.isStatics = false)
    (htext : (text == notModelled) = false) (hlimit : ¬ (stringBytes (stringToUtf16 text)).size > e.platform.arrayLengthLimit) (hheap : ¬ (stringBytes (stringToUtf16 text)).size * componentBytes .byte > e.platform.maxHeapBytes)
    {g : JFrame} (hg : g.method = m₀) (hsize : g.locals.size = c.maxLocals)
    (hRframes : names.length + 4 < R.frames) (hRlocals : 2 * g.monitorRoom + (g.stack.map fun v => v.category).sum + 10240 ≤ R.locals) (hshort : 13 * names.length + 55 ≤ 10240)
    (hRcells : cells + 3 ≤ R.cells) (hRslots : slots + ((stringBytes (stringToUtf16 text)).size + 4 + 6) ≤ R.slots) (hlocks : meth.locks = false) :
    ∃ (S : State) (q : Addr) (ce : Cell), (∀ target, Steps p.tables e below ((S.setTop g).pushFrame (.throwing q)) target → Steps p.tables e below ((W.setTop g).pushFrame (.throwNew cls (some text) none)) target) ∧
      Stand p l e R s m₀ args below meth c S locs (cells + 3) (slots + ((stringBytes (stringToUtf16 text)).size + 4 + 6)) ∧ S.heap[q]? = some ce ∧ s.vm.findClass cls = some ce.cls ∧ ce.vm = .none := by
  have howns : e.platform.frameOwnsMonitors = true := by rw [X.admits.platform]
  have hfin : e.platform.finalization = false := by rw [X.admits.platform]
  have hpl : e.platform.magicAccessors = ({} : Platform).magicAccessors := by rw [X.admits.platform]
  have a : ∀ x, x ∈ Bundle.messageArmAtoms cls names → x.holds args s none s [] = true := fun x hx => h x hx
  obtain ⟨T, Z0, L, -, Y⟩ := ThrowableC.of_atoms (args := args) howns hfin hpl (fun x hx => h x (by simp [Bundle.messageArmAtoms, hx]))
  obtain ⟨Z, M, LZ, LM, hnZ⟩ := Init0T.ofS_atoms (args := args) hpl L Y (fun x hx => h x (by simp [Bundle.messageArmAtoms, hx]))
  obtain ⟨P1, Ps, hlen, L1, hL, hP1m, hlink1, hlink⟩ := Bundle.chainS (args := args) hpl hnZ names cls hcls hnames (fun x hx => h x (by simp [Bundle.messageArmAtoms, hx]))
  obtain ⟨Zs, LZs, hn4, hfitv, hfitc⟩ := StringT.of_atoms (args := args) (fun x hx => h x (by simp [Bundle.messageArmAtoms, hx]))
  have hfound : s.vm.findClass cls = some P1.m.cls := findClass_of_methodNamed hP1m
  obtain ⟨c1, kX, hc1, hk, hord, -, -, hn6⟩ := Cond.instantiable_spec (a (.instantiable cls 6) (by simp [Bundle.messageArmAtoms]))
  cases Option.some.inj (hc1.symm.trans hfound)
  have hinit := Cond.initialized_spec hfound hk (a (.initialized cls) (by simp [Bundle.messageArmAtoms]))
  have hctor : kX.findMethod "<init>" "(Ljava/lang/String;)V" = some P1.m.idx := findMethod_of_methodNamed hP1m hk
  have hsel0 : selectMethod e.platform s.vm P1.m.cls T.fill0 = .method T.fill0 := by
    obtain ⟨c2, r2, m2, q1, q2, q3, q4, -⟩ := Cond.selects_spec (a (.selects cls Bundle.tFill0 Bundle.tFill0) (by simp [Bundle.messageArmAtoms]))
    cases Option.some.inj (q1.symm.trans hfound)
    cases Option.some.inj (q2.symm.trans (State.methodFound?_of_named Y.fill0 (by decide)))
    cases Option.some.inj (q3.symm.trans Y.fill0)
    rw [Launch.admits_selectMethod X.admits]; exact q4
  have hselF : selectMethod e.platform s.vm P1.m.cls T.fill = .method T.fill := by
    obtain ⟨c2, r2, m2, q1, q2, q3, q4, -⟩ := Cond.selects_spec (a (.selects cls Bundle.tFill Bundle.tFill) (by simp [Bundle.messageArmAtoms]))
    cases Option.some.inj (q1.symm.trans hfound)
    cases Option.some.inj (q2.symm.trans (State.methodFound?_of_named Y.fill (by decide)))
    cases Option.some.inj (q3.symm.trans Y.fill)
    rw [Launch.admits_selectMethod X.admits]; exact q4
  obtain ⟨cellS0, hcS0, hiss⟩ := Y.statics
  obtain ⟨u0, hu0⟩ := Cond.staticRefV Y.unassigned L.unassignedStatic L.statics hcS0 hiss (a (.isRef (.static Bundle.tN "UNASSIGNED_STACK" Bundle.steD)) (by simp [Bundle.messageArmAtoms]))
  obtain ⟨sen, hsen⟩ := Cond.staticRefV Y.sentinel L.sentinelStatic L.statics hcS0 hiss (a (.isRef (.static Bundle.tN "SUPPRESSED_SENTINEL" Bundle.listD)) (by simp [Bundle.messageArmAtoms]))
  obtain ⟨ci198, i198, fB, hk198, hg198, ha198, hsB, -, hnB, htB, hffB⟩ := Cond.ownField (t := .object "java/lang/Object") Y.found L.cls (by decide +kernel) (a (.fieldLink Bundle.tN 198 Bundle.tN "backtrace" "Ljava/lang/Object;") (by simp [Bundle.messageArmAtoms])) (a (.lays Bundle.tN Bundle.tN "backtrace" "Ljava/lang/Object;") (by simp [Bundle.messageArmAtoms])) e.platform hpl
  obtain ⟨cellS, hcS', heS, -, hkeep⟩ := X.same.2.2.2.2.2 T.aS cellS0 hcS0
  have hcellS : W.heap[T.aS]? = some cellS := hcS'
  have hout' : ∀ i, (⟨T.aS, i⟩ : Loc) ∉ locs := fun i hmem => by
    have := hlocs _ hmem cellS0 hcS0
    rw [hiss] at this; cases this
  have hknownS : cellS.vm ≠ .unknown := by
    rw [heS]; intro hu
    rw [show cellS0.vm = .unknown from hu] at hiss
    cases hiss
  have hvU : cellS.slots[T.fUnassigned.slot]? = some u0.v := by rw [hkeep _ (hout' _)]; exact hu0
  have hvSen : cellS.slots[T.fSentinel.slot]? = some sen.v := by rw [hkeep _ (hout' _)]; exact hsen
  obtain ⟨iM, hffM⟩ := Y.msg
  obtain ⟨tyC, dC, hdC, hdnC⟩ := Cond.laysAt hfound hk Y.cause (a (.lays cls Bundle.tN "cause" "Ljava/lang/Throwable;") (by simp [Bundle.messageArmAtoms]))
  obtain ⟨tyS, dS, hdS, hdnS⟩ := Cond.laysAt hfound hk Y.stack (a (.lays cls Bundle.tN "stackTrace" Bundle.steD) (by simp [Bundle.messageArmAtoms]))
  obtain ⟨tyP, dP, hdP, hdnP⟩ := Cond.laysAt hfound hk Y.supp (a (.lays cls Bundle.tN "suppressedExceptions" Bundle.listD) (by simp [Bundle.messageArmAtoms]))
  obtain ⟨tyM, dM, hdM, hdnM⟩ := Cond.laysAt hfound hk hffM (a (.lays cls Bundle.tN "detailMessage" "Ljava/lang/String;") (by simp [Bundle.messageArmAtoms]))
  obtain ⟨tyB, dB, hdB, hdnB⟩ := Cond.laysAt hfound hk hffB (a (.lays cls Bundle.tN "backtrace" "Ljava/lang/Object;") (by simp [Bundle.messageArmAtoms]))
  have bC := Cond.laysApart hdB hdC hdnB hdnC (by rw [hnB, Y.causeName]; decide)
  have bS := Cond.laysApart hdB hdS hdnB hdnS (by rw [hnB, Y.stackName]; decide)
  have bP := Cond.laysApart hdB hdP hdnB hdnP (by rw [hnB, Y.suppName]; decide)
  have hbk : ((preparedCellV T.toThrowableT (freshCell P1.m.cls kX) (W.heap.size + 2) u0 sen).withEntry W.cur).slots[fB.slot]? = some .null := by
    have := fresh_default (c := P1.m.cls) tyB
    rw [htB] at this
    simpa [preparedCellV, Cell.setSlot, Cell.withEntry, Array.getElem?_setIfInBounds, bC, bS, bP, bC.symm, bS.symm, bP.symm, defaultValue] using this
  have tkC := Takes.of_laid (v := .ref (W.heap.size + 2)) hk hord tyC (by rw [Y.causeType]; rfl)
  have tkS := Takes.of_laid (v := u0.v) hk hord tyS (by rw [Y.stackType]; exact fits_refV_array _ u0)
  have tkP := Takes.of_laid (v := sen.v) hk hord tyP (by rw [Y.suppType]; exact fits_refV_object _ sen)
  have tkM := Takes.of_laid (v := .ref (W.heap.size + 1)) hk hord tyM (by rw [Y.msgType]; rfl)
  have hskip : SkipFacts T e.platform s (fun u => u) u0 ((preparedCellV T.toThrowableT (freshCell P1.m.cls kX) (W.heap.size + 2) u0 sen).withEntry W.cur) := ⟨{ ci198 := ci198, i198 := i198, fBack := fB }, ⟨hk198, hg198, ha198, hsB⟩, hbk, fun _ _ => rfl⟩
  have h0 : At W g.method c below := by rw [hg]; exact X.here
  obtain ⟨hbeyond, hfreeW⟩ := X.vmMayThrow hsize (.throwNew cls (some text) none) (fun f hf => by cases hf) rfl hRlocals
  have hfr' : W.frames.length + Ps.length + 4 < (e.platform.stackLimits W.me).1 := by have := X.framesAbove hRframes; omega
  have hwd' : (stackUse (.java g :: W.frames.tail)).2 + 13 * Ps.length + 55 ≤ (e.platform.stackLimits W.me).2 := by have := X.stackAbove hsize (K := 13 * Ps.length + 55) (by omega); omega
  have hslots : W.slotsUsed + (stringBytes (stringToUtf16 text)).size + Zs.kS.instanceTypes.size + kX.instanceTypes.size ≤ e.platform.maxSlots := by
    have := X.slotsAbove hRslots
    rw [hn4, hn6]
    omega
  obtain ⟨vm', hW', st⟩ := Steps.vmThrowsMessageColdByV p (s₀ := s) (S := W) (g := g) h0 hexec T L Z LZ M LM X.warmed (t := W.cur) rfl Zs LZs P1 L1 Ps hL hlink1 hlink hsoe hoom hfound hk hinit hord hctor
    (Launch.admits_hotImplicitExceptions X.admits) hbeyond hfreeW htext hlimit hheap (X.cellsAbove hRcells) hslots (hfitv _) (hfitc _)
    (Nn := fun u => u) heapOnly_id (fun _ _ => rfl) (fun _ => rfl) (fun u x y => setCell_twice _ _ _ _) (fun _ => Nat.le_refl _) (cN := ((preparedCellV T.toThrowableT (freshCell P1.m.cls kX) (W.heap.size + 2) u0 sen).withEntry W.cur))
    hsel0 hcellS hknownS hvU tkS (fun _ hu => hu) (fun _ hu => hu) rfl rfl rfl (by simp [preparedCellV, Cell.setSlot, Cell.withEntry]) hskip (fun _ _ hA hW _ hroom _ hrest => L.nativeOff p htr hA hW hroom hrest) hselF hvSen tkC tkP tkM Y.objLocals rfl hfr' hwd'
  rw [plainBareV_eq T.toThrowableT (W.heap.size + 2) u0 sen (.ref (W.heap.size + 1)) W.cur rfl rfl] at st
  obtain ⟨-, -, w3, w4, -, -, -⟩ := withThrown_facts e.platform W Zs text P1.m.cls kX
  have X3 := ((X.pushed (bytesOf Zs.cB (stringToUtf16 text))).pushed (stringAt Zs.cS Zs.kS Zs.fv Zs.fc (stringToUtf16 text) W.heap.size)).pushed (freshCell P1.m.cls kX)
  rw [← withString_eq] at X3
  have X4 := X3.noted hW'
  have ha : (W.heap.size + 2) < ((withThrown W Zs text P1.m.cls kX).setVm vm').heap.size := by show _ < (withThrown W Zs text P1.m.cls kX).heap.size; rw [w3]; omega
  have hcell : ((withThrown W Zs text P1.m.cls kX).setVm vm').heap[(W.heap.size + 2)]? = some (freshCell P1.m.cls kX) := w4
  have X5 := ((((X4.stored hcell T.fCause.slot (.ref (W.heap.size + 2))).storedAgain ha T.fStack.slot u0.v).storedAgain ha T.fSupp.slot sen.v).storedAgain ha T.fStack.slot u0.v).storedAgain ha T.fMsg.slot (.ref (W.heap.size + 1))
  obtain ⟨g₁, hfrM⟩ := X5.frames_eq
  have hU : ((((withThrown W Zs text P1.m.cls kX).setVm vm').setCell (W.heap.size + 2) (plainBareV T.toThrowableT (freshCell P1.m.cls kX) (W.heap.size + 2) u0 sen (.ref (W.heap.size + 1)))).setTop g).pushFrame (.throwing (W.heap.size + 2)) = (((withThrown W Zs text P1.m.cls kX).setVm vm').setCell (W.heap.size + 2) (plainBareV T.toThrowableT (freshCell P1.m.cls kX) (W.heap.size + 2) u0 sen (.ref (W.heap.size + 1)))).setFrames (.throwing (W.heap.size + 2) :: .java g :: below) := by
    rw [State.pushFrame, State.frames_setTop _ hfrM, State.setTop_of_frames _ hfrM, State.setFrames_setFrames]
  have b1 : (bytesOf Zs.cB (stringToUtf16 text)).slots.size = (stringBytes (stringToUtf16 text)).size := by
    rw [(Cell.writeAll_facts _ _).2.2]; simp [bytes0]
  have b2 : (stringAt Zs.cS Zs.kS Zs.fv Zs.fc (stringToUtf16 text) W.heap.size).slots.size = 4 := by simp [string0, Cell.setSlot, hn4]
  have b3 : (freshCell P1.m.cls kX).slots.size = 6 := by simp [hn6]
  rw [b1, b2, b3] at X5
  have e9 : slots + (stringBytes (stringToUtf16 text)).size + 4 + 6 = slots + ((stringBytes (stringToUtf16 text)).size + 4 + 6) := by omega
  rw [e9] at X5
  simp only [List.append_assoc, List.cons_append, List.nil_append] at X5
  refine ⟨((withThrown W Zs text P1.m.cls kX).setVm vm').setCell (W.heap.size + 2) (plainBareV T.toThrowableT (freshCell P1.m.cls kX) (W.heap.size + 2) u0 sen (.ref (W.heap.size + 1))), W.heap.size + 2, _, fun target ht => st _ (by rw [X.tail, ← hU]; exact ht),
    X5.forget (fun y hy => ?_), heapAt_setCell_self _ ha, hfound, rfl⟩
  simp only [List.mem_cons, List.not_mem_nil, or_false] at hy
  have hge : s.heap.size ≤ W.heap.size := X.same.2.1
  rcases hy with rfl | rfl | rfl | rfl | rfl <;> exact Nat.le_trans hge (Nat.le_add_right _ 2)
set_option maxHeartbeats 1000000 in
/-- the machine throws NullPointerException, no traces kept: from its note over the frame g to 'throwing' over the same frame (follows the proof of Stand.vmThrowsNpe, Shelf42/KT2.lean; throwsNpeColdBareVAt, Shelf42/NT91.lean, called) -/
theorem vx_npeAt {p : Program} {l : Launch} {e : Env} {R : Room} {s : State} {m₀ : MethodId} {args : Array Value} {below : List Frame} {meth : Method} {c : Code} {W : State} {locs : List Loc} {cells slots : Nat}
    (X : Stand p l e R s m₀ args below meth c W locs cells slots) (hexec : p.tables.exec = Jvm.exec) (htr : e.platform.stackTraces = false) {n : Nat}
    (h : ∀ a ∈ Bundle.npeArmAtoms n, a.before args s = true)
    (hlocs : ∀ x ∈ locs, ∀ cell, s.heap[x.base]? = some cell → cell.vm.isStatics = false)
    {g : JFrame} (hg : g.method = m₀) (hsize : g.locals.size = c.maxLocals)
    (hRframes : 7 < R.frames) (hRlocals : 2 * g.monitorRoom + (g.stack.map fun v => v.category).sum + 10240 ≤ R.locals)
    (hRcells : cells + 1 ≤ R.cells) (hRslots : slots + n ≤ R.slots) (hlocks : meth.locks = false) :
    ∃ (S : State) (q : Addr) (ce : Cell), (∀ target, Steps p.tables e below ((S.setTop g).pushFrame (.throwing q)) target → Steps p.tables e below ((W.setTop g).pushFrame (.throwNew "java/lang/NullPointerException" none none)) target) ∧
      Stand p l e R s m₀ args below meth c S locs (cells + 1) (slots + n) ∧ S.heap[q]? = some ce ∧ s.vm.findClass "java/lang/NullPointerException" = some ce.cls ∧ ce.vm = .none := by
  have howns : e.platform.frameOwnsMonitors = true := by rw [X.admits.platform]
  have hfin : e.platform.finalization = false := by rw [X.admits.platform]
  have hpl : e.platform.magicAccessors = ({} : Platform).magicAccessors := by rw [X.admits.platform]
  have hpl2 : e.platform.arrayCloneIsPublic = true := by rw [X.admits.platform]
  have a' : ∀ x, x ∈ Bundle.npeArmAtoms n → x.holds args s none s [] = true := fun x hx => h x hx
  obtain ⟨T, Z, L, LZ, Y⟩ := ThrowableC.of_atoms (args := args) howns hfin hpl (fun x hx => h x (by simp [Bundle.npeArmAtoms, hx]))
  obtain ⟨N, LN, hcN, hnNF, hordN, hffS⟩ := NpeC.of_atoms (args := args) hpl hpl2 L Y (fun x hx => h x (by simp [Bundle.npeArmAtoms, hx]))
  obtain ⟨P1, L1, hP1m, hP1s⟩ := PassC.of_atoms (args := args) (s := s) hpl (X := Bundle.nN) (Y := Bundle.rN) (by decide) (by decide) LibCode.NullPointerException.Init0.at_0 LibCode.NullPointerException.Init0.at_1 LibCode.NullPointerException.Init0.at_4 (fun x hx => h x (by simp [Bundle.npeArmAtoms, hx]))
  obtain ⟨PR, LR, hPRm, hPRs⟩ := PassC.of_atoms (args := args) (s := s) hpl (X := Bundle.rN) (Y := Bundle.eN) (by decide) (by decide) LibCode.RuntimeException.Init0.at_0 LibCode.RuntimeException.Init0.at_1 LibCode.RuntimeException.Init0.at_4 (fun x hx => h x (by simp [Bundle.npeArmAtoms, hx]))
  obtain ⟨PE, LEx, hPEm, hPEs⟩ := PassC.of_atoms (args := args) (s := s) hpl (X := Bundle.eN) (Y := Bundle.tN) (by decide) (by decide) LibCode.Exception.Init0.at_0 LibCode.Exception.Init0.at_1 LibCode.Exception.Init0.at_4 (fun x hx => h x (by simp [Bundle.npeArmAtoms, hx]))
  have hfound : s.vm.findClass Bundle.nN = some P1.m.cls := findClass_of_methodNamed hP1m
  have ecls : N.cN = P1.m.cls := Option.some.inj (hcN.symm.trans hfound)
  have hk : s.vm.classes[P1.m.cls]? = some N.kN := by rw [← ecls]; exact LN.cls
  have hinit := Cond.initialized_spec hfound hk (a' (.initialized Bundle.nN) (by simp [Bundle.npeArmAtoms]))
  have hctor : N.kN.findMethod "<init>" "()V" = some P1.m.idx := findMethod_of_methodNamed hP1m hk
  obtain ⟨c1, k1, hc1, hk1, -, -, -, hn⟩ := Cond.instantiable_spec (a' (.instantiable Bundle.nN n) (by simp [Bundle.npeArmAtoms]))
  cases Option.some.inj (hc1.symm.trans hfound)
  cases Option.some.inj (hk1.symm.trans hk)
  have hfsz : (freshCell P1.m.cls N.kN).slots.size = n := by simp [hn]
  have hlink1 : P1.sup = PR.m := Option.some.inj (hP1s.symm.trans hPRm)
  have hlinkR : PR.sup = PE.m := Option.some.inj (hPRs.symm.trans hPEm)
  have hlinkE : PE.sup = Z.m T.toThrowableT := Option.some.inj (hPEs.symm.trans Y.init0)
  have hLs : ∀ P, P ∈ [PR, PE] → P.Links0 e.platform s := fun P hP => by
    simp only [List.mem_cons, List.not_mem_nil, or_false] at hP
    rcases hP with rfl | rfl
    · exact LR
    · exact LEx
  have hsel0 : selectMethod e.platform s.vm P1.m.cls T.fill0 = .method T.fill0 := by
    obtain ⟨c2, r2, m2, q1, q2, q3, q4, -⟩ := Cond.selects_spec (a' (.selects Bundle.nN Bundle.tFill0 Bundle.tFill0) (by simp [Bundle.npeArmAtoms]))
    cases Option.some.inj (q1.symm.trans hfound)
    cases Option.some.inj (q2.symm.trans (State.methodFound?_of_named Y.fill0 (by decide)))
    cases Option.some.inj (q3.symm.trans Y.fill0)
    rw [Launch.admits_selectMethod X.admits]; exact q4
  have hselF : selectMethod e.platform s.vm P1.m.cls T.fill = .method N.fill := by
    obtain ⟨c2, r2, m2, q1, q2, q3, q4, -⟩ := Cond.selects_spec (a' (.selects Bundle.nN Bundle.tFill Bundle.nFill) (by simp [Bundle.npeArmAtoms]))
    cases Option.some.inj (q1.symm.trans hfound)
    cases Option.some.inj (q2.symm.trans (State.methodFound?_of_named Y.fill (by decide)))
    cases Option.some.inj (q3.symm.trans hnNF)
    rw [Launch.admits_selectMethod X.admits]; exact q4
  obtain ⟨cellS0, hcS0, hiss⟩ := Y.statics
  obtain ⟨u0, hu0⟩ := Cond.staticRefV Y.unassigned L.unassignedStatic L.statics hcS0 hiss (a' (.isRef (.static Bundle.tN "UNASSIGNED_STACK" Bundle.steD)) (by simp [Bundle.npeArmAtoms]))
  obtain ⟨sen, hsen⟩ := Cond.staticRefV Y.sentinel L.sentinelStatic L.statics hcS0 hiss (a' (.isRef (.static Bundle.tN "SUPPRESSED_SENTINEL" Bundle.listD)) (by simp [Bundle.npeArmAtoms]))
  obtain ⟨ci198, i198, fB, hk198, hg198, ha198, hsB, -, hnB, htB, hffB⟩ := Cond.ownField (t := .object "java/lang/Object") Y.found L.cls (by decide +kernel) (a' (.fieldLink Bundle.tN 198 Bundle.tN "backtrace" Bundle.objD) (by simp [Bundle.npeArmAtoms])) (a' (.lays Bundle.tN Bundle.tN "backtrace" Bundle.objD) (by simp [Bundle.npeArmAtoms])) e.platform hpl
  obtain ⟨cellS, hcS', heS, -, hkeep⟩ := X.same.2.2.2.2.2 T.aS cellS0 hcS0
  have hcellS : W.heap[T.aS]? = some cellS := hcS'
  have hout' : ∀ i, (⟨T.aS, i⟩ : Loc) ∉ locs := fun i hmem => by
    have := hlocs _ hmem cellS0 hcS0
    rw [hiss] at this; cases this
  have hknownS : cellS.vm ≠ .unknown := by
    rw [heS]; intro hu
    rw [show cellS0.vm = .unknown from hu] at hiss
    cases hiss
  have hvU : cellS.slots[T.fUnassigned.slot]? = some u0.v := by rw [hkeep _ (hout' _)]; exact hu0
  have hvSen : cellS.slots[T.fSentinel.slot]? = some sen.v := by rw [hkeep _ (hout' _)]; exact hsen
  obtain ⟨tyC, dC, hdC, hdnC⟩ := Cond.laysAt hfound hk Y.cause (a' (.lays Bundle.nN Bundle.tN "cause" "Ljava/lang/Throwable;") (by simp [Bundle.npeArmAtoms]))
  obtain ⟨tyS, dS, hdS, hdnS⟩ := Cond.laysAt hfound hk Y.stack (a' (.lays Bundle.nN Bundle.tN "stackTrace" Bundle.steD) (by simp [Bundle.npeArmAtoms]))
  obtain ⟨tyP, dP, hdP, hdnP⟩ := Cond.laysAt hfound hk Y.supp (a' (.lays Bundle.nN Bundle.tN "suppressedExceptions" Bundle.listD) (by simp [Bundle.npeArmAtoms]))
  obtain ⟨tyX, dX, hdX, hdnX⟩ := Cond.laysAt hfound hk hffS (a' (.lays Bundle.nN Bundle.nN "extendedMessageState" "I") (by simp [Bundle.npeArmAtoms, Bundle.npeAtoms]))
  obtain ⟨hnX, htX⟩ := State.fieldFound?_type hffS (t := .int) (by decide +kernel)
  have xC := Cond.laysApart hdC hdX hdnC hdnX (by rw [hnX, Y.causeName]; decide)
  have xS := Cond.laysApart hdS hdX hdnS hdnX (by rw [hnX, Y.stackName]; decide)
  have xP := Cond.laysApart hdP hdX hdnP hdnX (by rw [hnX, Y.suppName]; decide)
  have hv0 : (freshCell P1.m.cls N.kN).slots[N.fState.slot]? = some (.int 0) := by
    have := fresh_default (c := P1.m.cls) tyX
    rw [htX] at this; exact this
  obtain ⟨tyB, dB, hdB, hdnB⟩ := Cond.laysAt hfound hk hffB (a' (.lays Bundle.nN Bundle.tN "backtrace" Bundle.objD) (by simp [Bundle.npeArmAtoms]))
  have bC := Cond.laysApart hdB hdC hdnB hdnC (by rw [hnB, Y.causeName]; decide)
  have bS := Cond.laysApart hdB hdS hdnB hdnS (by rw [hnB, Y.stackName]; decide)
  have bP := Cond.laysApart hdB hdP hdnB hdnP (by rw [hnB, Y.suppName]; decide)
  have bX := Cond.laysApart hdB hdX hdnB hdnX (by rw [hnB, hnX]; decide)
  have hbk : ((npeCell N.toNpeT (preparedCellV T.toThrowableT (freshCell P1.m.cls N.kN) W.heap.size u0 sen) W.cur).withEntry W.cur).slots[fB.slot]? = some .null := by
    have := fresh_default (c := P1.m.cls) tyB
    rw [htB] at this
    simpa [npeCell, preparedCellV, Cell.setSlot, Cell.withEntry, Array.getElem?_setIfInBounds, bC, bS, bP, bX, bC.symm, bS.symm, bP.symm, bX.symm, defaultValue] using this
  have tkC := Takes.of_laid (v := .ref W.heap.size) hk hordN tyC (by rw [Y.causeType]; rfl)
  have tkS := Takes.of_laid (v := u0.v) hk hordN tyS (by rw [Y.stackType]; exact fits_refV_array _ u0)
  have tkP := Takes.of_laid (v := sen.v) hk hordN tyP (by rw [Y.suppType]; exact fits_refV_object _ sen)
  have tkX := Takes.of_laid (v := .int 1) hk hordN tyX (by rw [htX]; rfl)
  have hskip : SkipFacts T e.platform s (fun u => u) u0 ((npeCell N.toNpeT (preparedCellV T.toThrowableT (freshCell P1.m.cls N.kN) W.heap.size u0 sen) W.cur).withEntry W.cur) := ⟨{ ci198 := ci198, i198 := i198, fBack := fB }, ⟨hk198, hg198, ha198, hsB⟩, hbk, fun _ _ => rfl⟩
  obtain ⟨vm', X3, st, -⟩ := X.throwsNpeColdBareVAt hexec hg hsize T L Z LZ N LN P1 L1 [PR, PE] hLs hlink1 ⟨hlinkR, hlinkE, trivial⟩ hfound hk hinit hordN hctor hsel0 hselF hcellS hknownS hvU hvSen
    hv0 xC xS xP tkC tkS tkP tkX Y.objLocals hskip (fun _ _ hA hW _ hroom _ hrest => L.nativeOff p htr hA hW hroom hrest) (by simpa using hRframes) hRlocals (by simp) hRcells (by rw [hn]; exact hRslots)
  have hlt : W.heap.size < ((W.pushCell (freshCell P1.m.cls N.kN)).setVm vm').heap.size := by
    show W.heap.size < (W.pushCell (freshCell P1.m.cls N.kN)).heap.size
    rw [State.heap_size_pushCell]; omega
  rw [hfsz] at X3
  obtain ⟨g₁, hfrM⟩ := X3.frames_eq
  have hU : ((((W.pushCell (freshCell P1.m.cls N.kN)).setVm vm').setCell W.heap.size (npeBareV T.toThrowableT N.toNpeT (freshCell P1.m.cls N.kN) W.heap.size u0 sen)).setTop g).pushFrame (.throwing W.heap.size) = (((W.pushCell (freshCell P1.m.cls N.kN)).setVm vm').setCell W.heap.size (npeBareV T.toThrowableT N.toNpeT (freshCell P1.m.cls N.kN) W.heap.size u0 sen)).setFrames (.throwing W.heap.size :: .java g :: below) := by
    rw [State.pushFrame, State.frames_setTop _ hfrM, State.setTop_of_frames _ hfrM, State.setFrames_setFrames]
  refine ⟨_, W.heap.size, _, fun target ht => st.trans (by rw [← hU]; exact ht), X3.forget (fun y hy => ?_), heapAt_setCell_self _ hlt, hfound, rfl⟩
  simp only [List.mem_cons, List.not_mem_nil, or_false] at hy
  have hge : s.heap.size ≤ W.heap.size := X.same.2.1
  rcases hy with rfl | rfl | rfl | rfl | rfl <;> exact hge
/-- the words of a machine's NullPointerException, but the four that speak of the heap -/
def vx_atN (n : Nat) : List Cond := (Bundle.npeArmAtoms n).filter vx_no
/-- the words of a machine's throw with a message, but the four that speak of the heap -/
def vx_atM (X : String) (names : List String) : List Cond := (Bundle.messageArmAtoms X names).filter vx_no
section
variable {p : Program} {l : Launch} {e : Env} {R : Room} {s : State} {m : MethodId} {args : Array Value} {below : List Frame} {meth : Method} {c : Code} {H : Heap} {locs : List Loc} {cells slots : Nat}
/-- a frame seen from a rebased start, seen from the first start again -/
theorem vx_back9 {T S : State} {R' : Room} {k n : Nat} (X : Stand p l e R s m args below meth c T locs cells slots) (Y : Stand p l e R' ((T.setVm s.vm).setFrames (.invoking m args :: below)) m args below meth c T [] 0 0) (Z : Stand p l e R' ((T.setVm s.vm).setFrames (.invoking m args :: below)) m args below meth c S [] k n) :
    Stand p l e R s m args below meth c S locs (cells + k) (slots + n) := by
  have hW0 : s.WarmedH ((T.setVm s.vm).setFrames (.invoking m args :: below)).vm := State.WarmedH.refl s
  refine { admits := X.admits, cas := X.cas, clock := X.clock, frames := X.frames, room := X.room, hears := X.hears, method := X.method, code := X.code, here := Z.here, tail := Z.tail, warmed := State.WarmedH.trans hW0 Z.warmed, limits := Z.limits.trans (Y.limits.symm.trans X.limits), bytes := Z.bytes.trans (Y.bytes.symm.trans X.bytes), same := ?_ }
  obtain ⟨e1, e2⟩ := Z.same
  rw [State.setFrames_setFrames] at e1
  have h2 : (T.setVm s.vm).sameButNew (S.setVm s.vm) [] k n := ⟨e1, e2⟩
  have h3 := X.same.trans h2
  rw [List.append_nil] at h3
  exact h3
/-- from the machine's note that E is thrown here with this text -/
def vx_Note (p : Program) (l : Launch) (e : Env) (R : Room) (s : State) (m : MethodId) (args : Array Value) (below : List Frame) (meth : Method) (c : Code) (H : Heap) (locs : List Loc) (cells slots : Nat) (Q : State → Prop) (g : JFrame) (E text : String) : Prop :=
  ∀ T : State, T.heap = H → Stand p l e R s m args below meth c T locs cells slots → ∃ t, Steps p.tables e below ((T.setTop g).pushFrame (.throwNew E (some text) none)) t ∧ Q t
theorem vx_vm {pc : Nat} {ls : Array Slot} {rest : List Value} {Q : State → Prop} (hexec : p.tables.exec = Jvm.exec) (hl : l.stackTraces = false) {cls text : String} {names : List String} {nb : Nat} {A : Nat → Prop}
    (hcls : Bundle.fit cls = true) (hnames : ∀ n ∈ names, Bundle.fit n = true) (hsoe : (cls == "java/lang/StackOverflowError") = false) (hoom : (cls == "java/lang/OutOfMemoryError") = false)
    (hat : ∀ w ∈ vx_atM cls names, w.before args s = true) (hgood : ∀ w ∈ vx_atM cls names, vx_ot w = true)
    (hU : vx_Zq Bundle.tN "UNASSIGNED_STACK" Bundle.steD A s s.heap) (hN : vx_Zq Bundle.tN "SUPPRESSED_SENTINEL" Bundle.listD A s s.heap) (hS : va_S A s.heap H locs) (hsize : ls.size = c.maxLocals)
    (htext : (text == notModelled) = false) (hnb : (stringBytes (stringToUtf16 text)).size ≤ nb) (hnb1 : nb ≤ 1000)
    (hRframes : names.length + 4 < R.frames) (hRlocals : (rest.map fun v => v.category).sum + 10240 ≤ R.locals) (hshort : 13 * names.length + 55 ≤ 10240) (hRcells : cells + 3 ≤ R.cells) (hRslots : slots + (nb + 10) ≤ R.slots) (hlocks : meth.locks = false)
    (k : ∀ (H1 : Heap) (q9 : Addr) (ce : Cell), H.size ≤ H1.size → (∀ q : Nat, q < H.size → H1[q]? = H[q]?) → va_S A s.heap H1 locs → H1[q9]? = some ce → ce.vm = .none → s.vm.findClass cls = some ce.cls → vx_W p l e R s m args below meth c H1 locs (cells + 3) (slots + (nb + 10)) Q (F0 m pc ls rest) q9) :
    vx_Note p l e R s m args below meth c H locs cells slots Q (F0 m pc ls rest) cls text := by
  intro T hT X
  have htr : e.platform.stackTraces = false := (show e.platform.stackTraces = l.stackTraces by rw [X.admits.platform]).trans hl
  have Y := vx_rebase X (R' := { frames := R.frames, locals := R.locals, cells := 3, slots := nb + 10 }) (Nat.le_refl _) (Nat.le_refl _) hRcells hRslots
  have hhp : ((T.setVm s.vm).setFrames (.invoking m args :: below)).heap = H := hT
  have hW0 : s.WarmedH ((T.setVm s.vm).setFrames (.invoking m args :: below)).vm := State.WarmedH.refl s
  have hat' : ∀ w ∈ vx_atM cls names, w.before args ((T.setVm s.vm).setFrames (.invoking m args :: below)) = true := fun w hw => vx_ot_at hW0 rfl (hgood w hw) (hat w hw)
  have hU' : vx_Zq Bundle.tN "UNASSIGNED_STACK" Bundle.steD A ((T.setVm s.vm).setFrames (.invoking m args :: below)) ((T.setVm s.vm).setFrames (.invoking m args :: below)).heap := by rw [hhp]; exact vx_Zq.moved hW0.alike (hU.kept hS.2.1)
  have hN' : vx_Zq Bundle.tN "SUPPRESSED_SENTINEL" Bundle.listD A ((T.setVm s.vm).setFrames (.invoking m args :: below)) ((T.setVm s.vm).setFrames (.invoking m args :: below)).heap := by rw [hhp]; exact vx_Zq.moved hW0.alike (hN.kept hS.2.1)
  obtain ⟨S, q, ce, st, Z, hce, hcl', hv⟩ := vx_vmAt Y hexec htr (cls := cls) (names := names) (text := text) hcls hnames hsoe hoom (vx_own hat' (vx_isRefq hU'.1) (vx_isRefq hN'.1) hU'.2.word hN'.2.word) (fun x hx => nomatch hx) htext
    (by rw [Launch.admits_arrayLengthLimit X.admits]; omega) (by rw [Launch.admits_maxHeapBytes X.admits]; simp only [componentBytes]; omega)
    (g := F0 m pc ls rest) rfl hsize hRframes (by show 2 * 0 + (rest.map fun v => v.category).sum + 10240 ≤ R.locals; omega) hshort (by show 0 + 3 ≤ 3; omega) (by show 0 + (_ + 4 + 6) ≤ nb + 10; omega) hlocks
  obtain ⟨f1, f2⟩ := vx_frame Z.same
  have f1' : H.size ≤ S.heap.size := by rw [← hT]; exact f1
  have f2' : ∀ q : Nat, q < H.size → S.heap[q]? = H[q]? := fun q hq => by
    rw [← hT]
    exact f2 q (by rw [← hT] at hq; exact hq) (fun z hz => nomatch hz)
  have X5 := vx_back9 X Y Z
  have X6 : Stand p l e R s m args below meth c S locs (cells + 3) (slots + (nb + 10)) := { X5 with same := X5.same.mono (by omega) (by omega) }
  obtain ⟨t, a1, b1⟩ := k S.heap q ce f1' f2' ⟨Nat.le_trans hS.1 f1', fun q h1 h2 => (f2' q (Nat.lt_of_lt_of_le h1 hS.1)).trans (hS.2.1 q h1 h2), hS.2.2⟩ hce hv hcl' S rfl X6
  exact ⟨t, st t a1, b1⟩
/-- from the machine's note that NullPointerException is thrown here -/
def vx_NoteN (p : Program) (l : Launch) (e : Env) (R : Room) (s : State) (m : MethodId) (args : Array Value) (below : List Frame) (meth : Method) (c : Code) (H : Heap) (locs : List Loc) (cells slots : Nat) (Q : State → Prop) (g : JFrame) : Prop :=
  ∀ T : State, T.heap = H → Stand p l e R s m args below meth c T locs cells slots → ∃ t, Steps p.tables e below ((T.setTop g).pushFrame (.throwNew "java/lang/NullPointerException" none none)) t ∧ Q t
theorem vx_npe {pc : Nat} {ls : Array Slot} {rest : List Value} {Q : State → Prop} (hexec : p.tables.exec = Jvm.exec) (hl : l.stackTraces = false) {nb : Nat} {A : Nat → Prop}
    (hat : ∀ w ∈ vx_atN nb, w.before args s = true) (hgood : ∀ w ∈ vx_atN nb, vx_ot w = true)
    (hU : vx_Zq Bundle.tN "UNASSIGNED_STACK" Bundle.steD A s s.heap) (hN : vx_Zq Bundle.tN "SUPPRESSED_SENTINEL" Bundle.listD A s s.heap) (hS : va_S A s.heap H locs) (hsize : ls.size = c.maxLocals)
    (hRframes : 7 < R.frames) (hRlocals : (rest.map fun v => v.category).sum + 10240 ≤ R.locals) (hRcells : cells + 1 ≤ R.cells) (hRslots : slots + nb ≤ R.slots) (hlocks : meth.locks = false)
    (k : ∀ (H1 : Heap) (q9 : Addr) (ce : Cell), H.size ≤ H1.size → (∀ q : Nat, q < H.size → H1[q]? = H[q]?) → va_S A s.heap H1 locs → H1[q9]? = some ce → ce.vm = .none → s.vm.findClass "java/lang/NullPointerException" = some ce.cls → vx_W p l e R s m args below meth c H1 locs (cells + 1) (slots + nb) Q (F0 m pc ls rest) q9) :
    vx_NoteN p l e R s m args below meth c H locs cells slots Q (F0 m pc ls rest) := by
  intro T hT X
  have htr : e.platform.stackTraces = false := (show e.platform.stackTraces = l.stackTraces by rw [X.admits.platform]).trans hl
  have Y := vx_rebase X (R' := { frames := R.frames, locals := R.locals, cells := 1, slots := nb }) (Nat.le_refl _) (Nat.le_refl _) hRcells hRslots
  have hhp : ((T.setVm s.vm).setFrames (.invoking m args :: below)).heap = H := hT
  have hW0 : s.WarmedH ((T.setVm s.vm).setFrames (.invoking m args :: below)).vm := State.WarmedH.refl s
  have hat' : ∀ w ∈ vx_atN nb, w.before args ((T.setVm s.vm).setFrames (.invoking m args :: below)) = true := fun w hw => vx_ot_at hW0 rfl (hgood w hw) (hat w hw)
  have hU' : vx_Zq Bundle.tN "UNASSIGNED_STACK" Bundle.steD A ((T.setVm s.vm).setFrames (.invoking m args :: below)) ((T.setVm s.vm).setFrames (.invoking m args :: below)).heap := by rw [hhp]; exact vx_Zq.moved hW0.alike (hU.kept hS.2.1)
  have hN' : vx_Zq Bundle.tN "SUPPRESSED_SENTINEL" Bundle.listD A ((T.setVm s.vm).setFrames (.invoking m args :: below)) ((T.setVm s.vm).setFrames (.invoking m args :: below)).heap := by rw [hhp]; exact vx_Zq.moved hW0.alike (hN.kept hS.2.1)
  obtain ⟨S, q, ce, st, Z, hce, hcl', hv⟩ := vx_npeAt Y hexec htr (n := nb) (vx_own hat' (vx_isRefq hU'.1) (vx_isRefq hN'.1) hU'.2.word hN'.2.word) (fun x hx => nomatch hx)
    (g := F0 m pc ls rest) rfl hsize hRframes (by show 2 * 0 + (rest.map fun v => v.category).sum + 10240 ≤ R.locals; omega) (by show 0 + 1 ≤ 1; omega) (by show 0 + nb ≤ nb; omega) hlocks
  obtain ⟨f1, f2⟩ := vx_frame Z.same
  have f1' : H.size ≤ S.heap.size := by rw [← hT]; exact f1
  have f2' : ∀ q : Nat, q < H.size → S.heap[q]? = H[q]? := fun q hq => by
    rw [← hT]
    exact f2 q (by rw [← hT] at hq; exact hq) (fun z hz => nomatch hz)
  have X5 := vx_back9 X Y Z
  have X6 : Stand p l e R s m args below meth c S locs (cells + 1) (slots + nb) := { X5 with same := X5.same.mono (by omega) (by omega) }
  obtain ⟨t, a1, b1⟩ := k S.heap q ce f1' f2' ⟨Nat.le_trans hS.1 f1', fun q h1 h2 => (f2' q (Nat.lt_of_lt_of_le h1 hS.1)).trans (hS.2.1 q h1 h2), hS.2.2⟩ hce hv hcl' S rfl X6
  exact ⟨t, st t a1, b1⟩
variable {Q : State → Prop} {cc : ByteArray} {pc : Nat} {ls : Array Slot} {rest : List Value}
theorem vx_idivZ (hexec : p.tables.exec = Jvm.exec) (hb : c.code = cc) {a b : Int32} (h0 : b = 0) (d : decode cc pc = .ok (.idiv, 1)) (k : vx_Note p l e R s m args below meth c H locs cells slots Q (F0 m pc ls rest) "java/lang/ArithmeticException" "/ by zero") :
    W p l e R s m args below meth c H locs cells slots Q (F0 m pc ls (.int b :: .int a :: rest)) := by
  intro T hT X
  obtain ⟨t, st, q⟩ := k T hT X
  exact ⟨t, X.idivZero hexec (g := F0 m pc ls (.int b :: .int a :: rest)) rfl (a := a) (rest := rest) (by rw [h0]) (by rw [hb]; exact d) t st, q⟩
theorem vx_iremZ (hexec : p.tables.exec = Jvm.exec) (hb : c.code = cc) {a b : Int32} (h0 : b = 0) (d : decode cc pc = .ok (.irem, 1)) (k : vx_Note p l e R s m args below meth c H locs cells slots Q (F0 m pc ls rest) "java/lang/ArithmeticException" "/ by zero") :
    W p l e R s m args below meth c H locs cells slots Q (F0 m pc ls (.int b :: .int a :: rest)) := by
  intro T hT X
  obtain ⟨t, st, q⟩ := k T hT X
  exact ⟨t, X.iremZero hexec (g := F0 m pc ls (.int b :: .int a :: rest)) rfl (a := a) (rest := rest) (by rw [h0]) (by rw [hb]; exact d) t st, q⟩
theorem vx_ldivZ (hexec : p.tables.exec = Jvm.exec) (hb : c.code = cc) {a b : Int64} (h0 : b = 0) (d : decode cc pc = .ok (.ldiv, 1)) (k : vx_Note p l e R s m args below meth c H locs cells slots Q (F0 m pc ls rest) "java/lang/ArithmeticException" "/ by zero") :
    W p l e R s m args below meth c H locs cells slots Q (F0 m pc ls (.long b :: .long a :: rest)) := by
  intro T hT X
  obtain ⟨t, st, q⟩ := k T hT X
  exact ⟨t, X.ldivZero hexec (g := F0 m pc ls (.long b :: .long a :: rest)) rfl (a := a) (rest := rest) (by rw [h0]) (by rw [hb]; exact d) t st, q⟩
theorem vx_lremZ (hexec : p.tables.exec = Jvm.exec) (hb : c.code = cc) {a b : Int64} (h0 : b = 0) (d : decode cc pc = .ok (.lrem, 1)) (k : vx_Note p l e R s m args below meth c H locs cells slots Q (F0 m pc ls rest) "java/lang/ArithmeticException" "/ by zero") :
    W p l e R s m args below meth c H locs cells slots Q (F0 m pc ls (.long b :: .long a :: rest)) := by
  intro T hT X
  obtain ⟨t, st, q⟩ := k T hT X
  exact ⟨t, X.lremZero hexec (g := F0 m pc ls (.long b :: .long a :: rest)) rfl (a := a) (rest := rest) (by rw [h0]) (by rw [hb]; exact d) t st, q⟩
theorem vx_ialdZ {D : va_G} {cl : List vw_C} {ws : va_W} {tys : List (ClassId × FieldType)} {a : Nat} (hexec : p.tables.exec = Jvm.exec) (hb : c.code = cc) (hK : va_K D cl tys s) (hP : va_P D cl ws H) (q0 t0 : Nat) {cA : ClassId} {n : Nat} {f : Nat → Int32} (ha : ws[q0]? = some (a, .inl (cA, n, .inl f))) (ht : tys[t0]? = some (cA, .int)) {i : Int32} (hout : ¬ vp_in i n) (hdg : decode cc pc = .ok (.iaload, 1))
    (k : ∀ tx : String, tx = (toString "Index " ++ toString i ++ toString " out of bounds for length " ++ toString n : String) → vx_Note p l e R s m args below meth c H locs cells slots Q (F0 m pc ls rest) "java/lang/ArrayIndexOutOfBoundsException" tx) : W p l e R s m args below meth c H locs cells slots Q (F0 m pc ls (.int i :: .ref a :: rest)) := by
  intro T hT X
  obtain ⟨t, st, q⟩ := k _ rfl T hT X
  refine ⟨t, ?_, q⟩
  have h1 := X.ialoadOut hexec (by rw [hT]; exact hP q0 _ ha) ((hK.2 t0 _ ht).1 n (fun j => .int (f j))) (j := i) (by show (i < 0 ∨ (arrV _ _ _).slots.size ≤ _); rw [arrV_size]; exact Classical.byContradiction hout) (g := F0 m pc ls (.int i :: .ref a :: rest)) rfl (rest := rest) rfl (by rw [hb]; exact hdg) t
  simp only [arrV_size] at h1
  exact h1 st
theorem vx_iastZ {D : va_G} {cl : List vw_C} {ws : va_W} {tys : List (ClassId × FieldType)} {a : Nat} (hexec : p.tables.exec = Jvm.exec) (hb : c.code = cc) (hK : va_K D cl tys s) (hP : va_P D cl ws H) (q0 t0 : Nat) {cA : ClassId} {n : Nat} {f : Nat → Int32} (ha : ws[q0]? = some (a, .inl (cA, n, .inl f))) (ht : tys[t0]? = some (cA, .int)) {i : Int32} {x : Int32} (hout : ¬ vp_in i n) (hdg : decode cc pc = .ok (.iastore, 1))
    (k : ∀ tx : String, tx = (toString "Index " ++ toString i ++ toString " out of bounds for length " ++ toString n : String) → vx_Note p l e R s m args below meth c H locs cells slots Q (F0 m pc ls rest) "java/lang/ArrayIndexOutOfBoundsException" tx) : W p l e R s m args below meth c H locs cells slots Q (F0 m pc ls (.int x :: .int i :: .ref a :: rest)) := by
  intro T hT X
  obtain ⟨t, st, q⟩ := k _ rfl T hT X
  refine ⟨t, ?_, q⟩
  have h1 := X.iastoreOut hexec (by rw [hT]; exact hP q0 _ ha) ((hK.2 t0 _ ht).1 n (fun j => .int (f j))) (j := i) (by show (i < 0 ∨ (arrV _ _ _).slots.size ≤ _); rw [arrV_size]; exact Classical.byContradiction hout) (g := F0 m pc ls (.int x :: .int i :: .ref a :: rest)) rfl (rest := rest) rfl (by rw [hb]; exact hdg) t
  simp only [arrV_size] at h1
  exact h1 st
theorem vx_baldZ {D : va_G} {cl : List vw_C} {ws : va_W} {tys : List (ClassId × FieldType)} {a : Nat} (hexec : p.tables.exec = Jvm.exec) (hb : c.code = cc) (hK : va_K D cl tys s) (hP : va_P D cl ws H) (q0 t0 : Nat) {cA : ClassId} {n : Nat} {f : Nat → Int32} (ha : ws[q0]? = some (a, .inl (cA, n, .inl f))) (ht : tys[t0]? = some (cA, .byte)) {i : Int32} (hout : ¬ vp_in i n) (hdg : decode cc pc = .ok (.baload, 1))
    (k : ∀ tx : String, tx = (toString "Index " ++ toString i ++ toString " out of bounds for length " ++ toString n : String) → vx_Note p l e R s m args below meth c H locs cells slots Q (F0 m pc ls rest) "java/lang/ArrayIndexOutOfBoundsException" tx) : W p l e R s m args below meth c H locs cells slots Q (F0 m pc ls (.int i :: .ref a :: rest)) := by
  intro T hT X
  obtain ⟨t, st, q⟩ := k _ rfl T hT X
  refine ⟨t, ?_, q⟩
  have h1 := X.baloadOut hexec (by rw [hT]; exact hP q0 _ ha) ((hK.2 t0 _ ht).1 n (fun j => .int (f j))) (j := i) (by show (i < 0 ∨ (arrV _ _ _).slots.size ≤ _); rw [arrV_size]; exact Classical.byContradiction hout) (g := F0 m pc ls (.int i :: .ref a :: rest)) rfl (rest := rest) rfl (by rw [hb]; exact hdg) t
  simp only [arrV_size] at h1
  exact h1 st
theorem vx_bastZ {D : va_G} {cl : List vw_C} {ws : va_W} {tys : List (ClassId × FieldType)} {a : Nat} (hexec : p.tables.exec = Jvm.exec) (hb : c.code = cc) (hK : va_K D cl tys s) (hP : va_P D cl ws H) (q0 t0 : Nat) {cA : ClassId} {n : Nat} {f : Nat → Int32} (ha : ws[q0]? = some (a, .inl (cA, n, .inl f))) (ht : tys[t0]? = some (cA, .byte)) {i : Int32} {x : Int32} (hout : ¬ vp_in i n) (hdg : decode cc pc = .ok (.bastore, 1))
    (k : ∀ tx : String, tx = (toString "Index " ++ toString i ++ toString " out of bounds for length " ++ toString n : String) → vx_Note p l e R s m args below meth c H locs cells slots Q (F0 m pc ls rest) "java/lang/ArrayIndexOutOfBoundsException" tx) : W p l e R s m args below meth c H locs cells slots Q (F0 m pc ls (.int x :: .int i :: .ref a :: rest)) := by
  intro T hT X
  obtain ⟨t, st, q⟩ := k _ rfl T hT X
  refine ⟨t, ?_, q⟩
  have h1 := X.bastoreOut hexec (by rw [hT]; exact hP q0 _ ha) ((hK.2 t0 _ ht).1 n (fun j => .int (f j))) (j := i) (by show (i < 0 ∨ (arrV _ _ _).slots.size ≤ _); rw [arrV_size]; exact Classical.byContradiction hout) (g := F0 m pc ls (.int x :: .int i :: .ref a :: rest)) rfl (rest := rest) rfl (by rw [hb]; exact hdg) t
  simp only [arrV_size] at h1
  exact h1 st
theorem vx_zaldZ {D : va_G} {cl : List vw_C} {ws : va_W} {tys : List (ClassId × FieldType)} {a : Nat} (hexec : p.tables.exec = Jvm.exec) (hb : c.code = cc) (hK : va_K D cl tys s) (hP : va_P D cl ws H) (q0 t0 : Nat) {cA : ClassId} {n : Nat} {f : Nat → Int32} (ha : ws[q0]? = some (a, .inl (cA, n, .inl f))) (ht : tys[t0]? = some (cA, .boolean)) {i : Int32} (hout : ¬ vp_in i n) (hdg : decode cc pc = .ok (.baload, 1))
    (k : ∀ tx : String, tx = (toString "Index " ++ toString i ++ toString " out of bounds for length " ++ toString n : String) → vx_Note p l e R s m args below meth c H locs cells slots Q (F0 m pc ls rest) "java/lang/ArrayIndexOutOfBoundsException" tx) : W p l e R s m args below meth c H locs cells slots Q (F0 m pc ls (.int i :: .ref a :: rest)) := by
  intro T hT X
  obtain ⟨t, st, q⟩ := k _ rfl T hT X
  refine ⟨t, ?_, q⟩
  have h1 := X.baloadOut hexec (by rw [hT]; exact hP q0 _ ha) ((hK.2 t0 _ ht).1 n (fun j => .int (f j))) (j := i) (by show (i < 0 ∨ (arrV _ _ _).slots.size ≤ _); rw [arrV_size]; exact Classical.byContradiction hout) (g := F0 m pc ls (.int i :: .ref a :: rest)) rfl (rest := rest) rfl (by rw [hb]; exact hdg) t
  simp only [arrV_size] at h1
  exact h1 st
theorem vx_zastZ {D : va_G} {cl : List vw_C} {ws : va_W} {tys : List (ClassId × FieldType)} {a : Nat} (hexec : p.tables.exec = Jvm.exec) (hb : c.code = cc) (hK : va_K D cl tys s) (hP : va_P D cl ws H) (q0 t0 : Nat) {cA : ClassId} {n : Nat} {f : Nat → Int32} (ha : ws[q0]? = some (a, .inl (cA, n, .inl f))) (ht : tys[t0]? = some (cA, .boolean)) {i : Int32} {x : Int32} (hout : ¬ vp_in i n) (hdg : decode cc pc = .ok (.bastore, 1))
    (k : ∀ tx : String, tx = (toString "Index " ++ toString i ++ toString " out of bounds for length " ++ toString n : String) → vx_Note p l e R s m args below meth c H locs cells slots Q (F0 m pc ls rest) "java/lang/ArrayIndexOutOfBoundsException" tx) : W p l e R s m args below meth c H locs cells slots Q (F0 m pc ls (.int x :: .int i :: .ref a :: rest)) := by
  intro T hT X
  obtain ⟨t, st, q⟩ := k _ rfl T hT X
  refine ⟨t, ?_, q⟩
  have h1 := X.bastoreOut hexec (by rw [hT]; exact hP q0 _ ha) ((hK.2 t0 _ ht).1 n (fun j => .int (f j))) (j := i) (by show (i < 0 ∨ (arrV _ _ _).slots.size ≤ _); rw [arrV_size]; exact Classical.byContradiction hout) (g := F0 m pc ls (.int x :: .int i :: .ref a :: rest)) rfl (rest := rest) rfl (by rw [hb]; exact hdg) t
  simp only [arrV_size] at h1
  exact h1 st
theorem vx_caldZ {D : va_G} {cl : List vw_C} {ws : va_W} {tys : List (ClassId × FieldType)} {a : Nat} (hexec : p.tables.exec = Jvm.exec) (hb : c.code = cc) (hK : va_K D cl tys s) (hP : va_P D cl ws H) (q0 t0 : Nat) {cA : ClassId} {n : Nat} {f : Nat → Int32} (ha : ws[q0]? = some (a, .inl (cA, n, .inl f))) (ht : tys[t0]? = some (cA, .char)) {i : Int32} (hout : ¬ vp_in i n) (hdg : decode cc pc = .ok (.caload, 1))
    (k : ∀ tx : String, tx = (toString "Index " ++ toString i ++ toString " out of bounds for length " ++ toString n : String) → vx_Note p l e R s m args below meth c H locs cells slots Q (F0 m pc ls rest) "java/lang/ArrayIndexOutOfBoundsException" tx) : W p l e R s m args below meth c H locs cells slots Q (F0 m pc ls (.int i :: .ref a :: rest)) := by
  intro T hT X
  obtain ⟨t, st, q⟩ := k _ rfl T hT X
  refine ⟨t, ?_, q⟩
  have h1 := X.caloadOut hexec (by rw [hT]; exact hP q0 _ ha) ((hK.2 t0 _ ht).1 n (fun j => .int (f j))) (j := i) (by show (i < 0 ∨ (arrV _ _ _).slots.size ≤ _); rw [arrV_size]; exact Classical.byContradiction hout) (g := F0 m pc ls (.int i :: .ref a :: rest)) rfl (rest := rest) rfl (by rw [hb]; exact hdg) t
  simp only [arrV_size] at h1
  exact h1 st
theorem vx_castZ {D : va_G} {cl : List vw_C} {ws : va_W} {tys : List (ClassId × FieldType)} {a : Nat} (hexec : p.tables.exec = Jvm.exec) (hb : c.code = cc) (hK : va_K D cl tys s) (hP : va_P D cl ws H) (q0 t0 : Nat) {cA : ClassId} {n : Nat} {f : Nat → Int32} (ha : ws[q0]? = some (a, .inl (cA, n, .inl f))) (ht : tys[t0]? = some (cA, .char)) {i : Int32} {x : Int32} (hout : ¬ vp_in i n) (hdg : decode cc pc = .ok (.castore, 1))
    (k : ∀ tx : String, tx = (toString "Index " ++ toString i ++ toString " out of bounds for length " ++ toString n : String) → vx_Note p l e R s m args below meth c H locs cells slots Q (F0 m pc ls rest) "java/lang/ArrayIndexOutOfBoundsException" tx) : W p l e R s m args below meth c H locs cells slots Q (F0 m pc ls (.int x :: .int i :: .ref a :: rest)) := by
  intro T hT X
  obtain ⟨t, st, q⟩ := k _ rfl T hT X
  refine ⟨t, ?_, q⟩
  have h1 := X.castoreOut hexec (by rw [hT]; exact hP q0 _ ha) ((hK.2 t0 _ ht).1 n (fun j => .int (f j))) (j := i) (by show (i < 0 ∨ (arrV _ _ _).slots.size ≤ _); rw [arrV_size]; exact Classical.byContradiction hout) (g := F0 m pc ls (.int x :: .int i :: .ref a :: rest)) rfl (rest := rest) rfl (by rw [hb]; exact hdg) t
  simp only [arrV_size] at h1
  exact h1 st
theorem vx_saldZ {D : va_G} {cl : List vw_C} {ws : va_W} {tys : List (ClassId × FieldType)} {a : Nat} (hexec : p.tables.exec = Jvm.exec) (hb : c.code = cc) (hK : va_K D cl tys s) (hP : va_P D cl ws H) (q0 t0 : Nat) {cA : ClassId} {n : Nat} {f : Nat → Int32} (ha : ws[q0]? = some (a, .inl (cA, n, .inl f))) (ht : tys[t0]? = some (cA, .short)) {i : Int32} (hout : ¬ vp_in i n) (hdg : decode cc pc = .ok (.saload, 1))
    (k : ∀ tx : String, tx = (toString "Index " ++ toString i ++ toString " out of bounds for length " ++ toString n : String) → vx_Note p l e R s m args below meth c H locs cells slots Q (F0 m pc ls rest) "java/lang/ArrayIndexOutOfBoundsException" tx) : W p l e R s m args below meth c H locs cells slots Q (F0 m pc ls (.int i :: .ref a :: rest)) := by
  intro T hT X
  obtain ⟨t, st, q⟩ := k _ rfl T hT X
  refine ⟨t, ?_, q⟩
  have h1 := X.saloadOut hexec (by rw [hT]; exact hP q0 _ ha) ((hK.2 t0 _ ht).1 n (fun j => .int (f j))) (j := i) (by show (i < 0 ∨ (arrV _ _ _).slots.size ≤ _); rw [arrV_size]; exact Classical.byContradiction hout) (g := F0 m pc ls (.int i :: .ref a :: rest)) rfl (rest := rest) rfl (by rw [hb]; exact hdg) t
  simp only [arrV_size] at h1
  exact h1 st
theorem vx_sastZ {D : va_G} {cl : List vw_C} {ws : va_W} {tys : List (ClassId × FieldType)} {a : Nat} (hexec : p.tables.exec = Jvm.exec) (hb : c.code = cc) (hK : va_K D cl tys s) (hP : va_P D cl ws H) (q0 t0 : Nat) {cA : ClassId} {n : Nat} {f : Nat → Int32} (ha : ws[q0]? = some (a, .inl (cA, n, .inl f))) (ht : tys[t0]? = some (cA, .short)) {i : Int32} {x : Int32} (hout : ¬ vp_in i n) (hdg : decode cc pc = .ok (.sastore, 1))
    (k : ∀ tx : String, tx = (toString "Index " ++ toString i ++ toString " out of bounds for length " ++ toString n : String) → vx_Note p l e R s m args below meth c H locs cells slots Q (F0 m pc ls rest) "java/lang/ArrayIndexOutOfBoundsException" tx) : W p l e R s m args below meth c H locs cells slots Q (F0 m pc ls (.int x :: .int i :: .ref a :: rest)) := by
  intro T hT X
  obtain ⟨t, st, q⟩ := k _ rfl T hT X
  refine ⟨t, ?_, q⟩
  have h1 := X.sastoreOut hexec (by rw [hT]; exact hP q0 _ ha) ((hK.2 t0 _ ht).1 n (fun j => .int (f j))) (j := i) (by show (i < 0 ∨ (arrV _ _ _).slots.size ≤ _); rw [arrV_size]; exact Classical.byContradiction hout) (g := F0 m pc ls (.int x :: .int i :: .ref a :: rest)) rfl (rest := rest) rfl (by rw [hb]; exact hdg) t
  simp only [arrV_size] at h1
  exact h1 st
theorem vx_laldZ {D : va_G} {cl : List vw_C} {ws : va_W} {tys : List (ClassId × FieldType)} {a : Nat} (hexec : p.tables.exec = Jvm.exec) (hb : c.code = cc) (hK : va_K D cl tys s) (hP : va_P D cl ws H) (q0 t0 : Nat) {cA : ClassId} {n : Nat} {f : Nat → Int64} (ha : ws[q0]? = some (a, .inl (cA, n, .inr (.inl f)))) (ht : tys[t0]? = some (cA, .long)) {i : Int32} (hout : ¬ vp_in i n) (hdg : decode cc pc = .ok (.laload, 1))
    (k : ∀ tx : String, tx = (toString "Index " ++ toString i ++ toString " out of bounds for length " ++ toString n : String) → vx_Note p l e R s m args below meth c H locs cells slots Q (F0 m pc ls rest) "java/lang/ArrayIndexOutOfBoundsException" tx) : W p l e R s m args below meth c H locs cells slots Q (F0 m pc ls (.int i :: .ref a :: rest)) := by
  intro T hT X
  obtain ⟨t, st, q⟩ := k _ rfl T hT X
  refine ⟨t, ?_, q⟩
  have h1 := X.laloadOut hexec (by rw [hT]; exact hP q0 _ ha) ((hK.2 t0 _ ht).1 n (fun j => .long (f j))) (j := i) (by show (i < 0 ∨ (arrV _ _ _).slots.size ≤ _); rw [arrV_size]; exact Classical.byContradiction hout) (g := F0 m pc ls (.int i :: .ref a :: rest)) rfl (rest := rest) rfl (by rw [hb]; exact hdg) t
  simp only [arrV_size] at h1
  exact h1 st
theorem vx_lastZ {D : va_G} {cl : List vw_C} {ws : va_W} {tys : List (ClassId × FieldType)} {a : Nat} (hexec : p.tables.exec = Jvm.exec) (hb : c.code = cc) (hK : va_K D cl tys s) (hP : va_P D cl ws H) (q0 t0 : Nat) {cA : ClassId} {n : Nat} {f : Nat → Int64} (ha : ws[q0]? = some (a, .inl (cA, n, .inr (.inl f)))) (ht : tys[t0]? = some (cA, .long)) {i : Int32} {x : Int64} (hout : ¬ vp_in i n) (hdg : decode cc pc = .ok (.lastore, 1))
    (k : ∀ tx : String, tx = (toString "Index " ++ toString i ++ toString " out of bounds for length " ++ toString n : String) → vx_Note p l e R s m args below meth c H locs cells slots Q (F0 m pc ls rest) "java/lang/ArrayIndexOutOfBoundsException" tx) : W p l e R s m args below meth c H locs cells slots Q (F0 m pc ls (.long x :: .int i :: .ref a :: rest)) := by
  intro T hT X
  obtain ⟨t, st, q⟩ := k _ rfl T hT X
  refine ⟨t, ?_, q⟩
  have h1 := X.lastoreOut hexec (by rw [hT]; exact hP q0 _ ha) ((hK.2 t0 _ ht).1 n (fun j => .long (f j))) (j := i) (by show (i < 0 ∨ (arrV _ _ _).slots.size ≤ _); rw [arrV_size]; exact Classical.byContradiction hout) (g := F0 m pc ls (.long x :: .int i :: .ref a :: rest)) rfl (rest := rest) rfl (by rw [hb]; exact hdg) t
  simp only [arrV_size] at h1
  exact h1 st
theorem vx_faldZ {D : va_G} {cl : List vw_C} {ws : va_W} {tys : List (ClassId × FieldType)} {a : Nat} (hexec : p.tables.exec = Jvm.exec) (hb : c.code = cc) (hK : va_K D cl tys s) (hP : va_P D cl ws H) (q0 t0 : Nat) {cA : ClassId} {n : Nat} {f : Nat → UInt32} (ha : ws[q0]? = some (a, .inl (cA, n, .inr (.inr (.inl f))))) (ht : tys[t0]? = some (cA, .float)) {i : Int32} (hout : ¬ vp_in i n) (hdg : decode cc pc = .ok (.faload, 1))
    (k : ∀ tx : String, tx = (toString "Index " ++ toString i ++ toString " out of bounds for length " ++ toString n : String) → vx_Note p l e R s m args below meth c H locs cells slots Q (F0 m pc ls rest) "java/lang/ArrayIndexOutOfBoundsException" tx) : W p l e R s m args below meth c H locs cells slots Q (F0 m pc ls (.int i :: .ref a :: rest)) := by
  intro T hT X
  obtain ⟨t, st, q⟩ := k _ rfl T hT X
  refine ⟨t, ?_, q⟩
  have h1 := X.faloadOut hexec (by rw [hT]; exact hP q0 _ ha) ((hK.2 t0 _ ht).1 n (fun j => .float (f j))) (j := i) (by show (i < 0 ∨ (arrV _ _ _).slots.size ≤ _); rw [arrV_size]; exact Classical.byContradiction hout) (g := F0 m pc ls (.int i :: .ref a :: rest)) rfl (rest := rest) rfl (by rw [hb]; exact hdg) t
  simp only [arrV_size] at h1
  exact h1 st
theorem vx_fastZ {D : va_G} {cl : List vw_C} {ws : va_W} {tys : List (ClassId × FieldType)} {a : Nat} (hexec : p.tables.exec = Jvm.exec) (hb : c.code = cc) (hK : va_K D cl tys s) (hP : va_P D cl ws H) (q0 t0 : Nat) {cA : ClassId} {n : Nat} {f : Nat → UInt32} (ha : ws[q0]? = some (a, .inl (cA, n, .inr (.inr (.inl f))))) (ht : tys[t0]? = some (cA, .float)) {i : Int32} {x : UInt32} (hout : ¬ vp_in i n) (hdg : decode cc pc = .ok (.fastore, 1))
    (k : ∀ tx : String, tx = (toString "Index " ++ toString i ++ toString " out of bounds for length " ++ toString n : String) → vx_Note p l e R s m args below meth c H locs cells slots Q (F0 m pc ls rest) "java/lang/ArrayIndexOutOfBoundsException" tx) : W p l e R s m args below meth c H locs cells slots Q (F0 m pc ls (.float x :: .int i :: .ref a :: rest)) := by
  intro T hT X
  obtain ⟨t, st, q⟩ := k _ rfl T hT X
  refine ⟨t, ?_, q⟩
  have h1 := X.fastoreOut hexec (by rw [hT]; exact hP q0 _ ha) ((hK.2 t0 _ ht).1 n (fun j => .float (f j))) (j := i) (by show (i < 0 ∨ (arrV _ _ _).slots.size ≤ _); rw [arrV_size]; exact Classical.byContradiction hout) (g := F0 m pc ls (.float x :: .int i :: .ref a :: rest)) rfl (rest := rest) rfl (by rw [hb]; exact hdg) t
  simp only [arrV_size] at h1
  exact h1 st
theorem vx_daldZ {D : va_G} {cl : List vw_C} {ws : va_W} {tys : List (ClassId × FieldType)} {a : Nat} (hexec : p.tables.exec = Jvm.exec) (hb : c.code = cc) (hK : va_K D cl tys s) (hP : va_P D cl ws H) (q0 t0 : Nat) {cA : ClassId} {n : Nat} {f : Nat → UInt64} (ha : ws[q0]? = some (a, .inl (cA, n, .inr (.inr (.inr (.inl f)))))) (ht : tys[t0]? = some (cA, .double)) {i : Int32} (hout : ¬ vp_in i n) (hdg : decode cc pc = .ok (.daload, 1))
    (k : ∀ tx : String, tx = (toString "Index " ++ toString i ++ toString " out of bounds for length " ++ toString n : String) → vx_Note p l e R s m args below meth c H locs cells slots Q (F0 m pc ls rest) "java/lang/ArrayIndexOutOfBoundsException" tx) : W p l e R s m args below meth c H locs cells slots Q (F0 m pc ls (.int i :: .ref a :: rest)) := by
  intro T hT X
  obtain ⟨t, st, q⟩ := k _ rfl T hT X
  refine ⟨t, ?_, q⟩
  have h1 := X.daloadOut hexec (by rw [hT]; exact hP q0 _ ha) ((hK.2 t0 _ ht).1 n (fun j => .double (f j))) (j := i) (by show (i < 0 ∨ (arrV _ _ _).slots.size ≤ _); rw [arrV_size]; exact Classical.byContradiction hout) (g := F0 m pc ls (.int i :: .ref a :: rest)) rfl (rest := rest) rfl (by rw [hb]; exact hdg) t
  simp only [arrV_size] at h1
  exact h1 st
theorem vx_dastZ {D : va_G} {cl : List vw_C} {ws : va_W} {tys : List (ClassId × FieldType)} {a : Nat} (hexec : p.tables.exec = Jvm.exec) (hb : c.code = cc) (hK : va_K D cl tys s) (hP : va_P D cl ws H) (q0 t0 : Nat) {cA : ClassId} {n : Nat} {f : Nat → UInt64} (ha : ws[q0]? = some (a, .inl (cA, n, .inr (.inr (.inr (.inl f)))))) (ht : tys[t0]? = some (cA, .double)) {i : Int32} {x : UInt64} (hout : ¬ vp_in i n) (hdg : decode cc pc = .ok (.dastore, 1))
    (k : ∀ tx : String, tx = (toString "Index " ++ toString i ++ toString " out of bounds for length " ++ toString n : String) → vx_Note p l e R s m args below meth c H locs cells slots Q (F0 m pc ls rest) "java/lang/ArrayIndexOutOfBoundsException" tx) : W p l e R s m args below meth c H locs cells slots Q (F0 m pc ls (.double x :: .int i :: .ref a :: rest)) := by
  intro T hT X
  obtain ⟨t, st, q⟩ := k _ rfl T hT X
  refine ⟨t, ?_, q⟩
  have h1 := X.dastoreOut hexec (by rw [hT]; exact hP q0 _ ha) ((hK.2 t0 _ ht).1 n (fun j => .double (f j))) (j := i) (by show (i < 0 ∨ (arrV _ _ _).slots.size ≤ _); rw [arrV_size]; exact Classical.byContradiction hout) (g := F0 m pc ls (.double x :: .int i :: .ref a :: rest)) rfl (rest := rest) rfl (by rw [hb]; exact hdg) t
  simp only [arrV_size] at h1
  exact h1 st
theorem vx_arraylengthN (hexec : p.tables.exec = Jvm.exec) (hb : c.code = cc) (hdg : decode cc pc = .ok (.arraylength, 1)) (k : vx_NoteN p l e R s m args below meth c H locs cells slots Q (F0 m pc ls rest)) : W p l e R s m args below meth c H locs cells slots Q (F0 m pc ls (.null :: rest)) := by
  intro T hT X
  obtain ⟨t, st, q⟩ := k T hT X
  exact ⟨t, X.arraylengthNull hexec (g := F0 m pc ls (.null :: rest)) rfl (rest := rest) rfl (by rw [hb]; exact hdg) t st, q⟩
theorem vx_ialoadN (hexec : p.tables.exec = Jvm.exec) (hb : c.code = cc) {i : Int32} (hdg : decode cc pc = .ok (.iaload, 1)) (k : vx_NoteN p l e R s m args below meth c H locs cells slots Q (F0 m pc ls rest)) : W p l e R s m args below meth c H locs cells slots Q (F0 m pc ls (.int i :: .null :: rest)) := by
  intro T hT X
  obtain ⟨t, st, q⟩ := k T hT X
  exact ⟨t, X.ialoadNull hexec (g := F0 m pc ls (.int i :: .null :: rest)) rfl (rest := rest) rfl (by rw [hb]; exact hdg) t st, q⟩
theorem vx_laloadN (hexec : p.tables.exec = Jvm.exec) (hb : c.code = cc) {i : Int32} (hdg : decode cc pc = .ok (.laload, 1)) (k : vx_NoteN p l e R s m args below meth c H locs cells slots Q (F0 m pc ls rest)) : W p l e R s m args below meth c H locs cells slots Q (F0 m pc ls (.int i :: .null :: rest)) := by
  intro T hT X
  obtain ⟨t, st, q⟩ := k T hT X
  exact ⟨t, X.laloadNull hexec (g := F0 m pc ls (.int i :: .null :: rest)) rfl (rest := rest) rfl (by rw [hb]; exact hdg) t st, q⟩
theorem vx_faloadN (hexec : p.tables.exec = Jvm.exec) (hb : c.code = cc) {i : Int32} (hdg : decode cc pc = .ok (.faload, 1)) (k : vx_NoteN p l e R s m args below meth c H locs cells slots Q (F0 m pc ls rest)) : W p l e R s m args below meth c H locs cells slots Q (F0 m pc ls (.int i :: .null :: rest)) := by
  intro T hT X
  obtain ⟨t, st, q⟩ := k T hT X
  exact ⟨t, X.faloadNull hexec (g := F0 m pc ls (.int i :: .null :: rest)) rfl (rest := rest) rfl (by rw [hb]; exact hdg) t st, q⟩
theorem vx_daloadN (hexec : p.tables.exec = Jvm.exec) (hb : c.code = cc) {i : Int32} (hdg : decode cc pc = .ok (.daload, 1)) (k : vx_NoteN p l e R s m args below meth c H locs cells slots Q (F0 m pc ls rest)) : W p l e R s m args below meth c H locs cells slots Q (F0 m pc ls (.int i :: .null :: rest)) := by
  intro T hT X
  obtain ⟨t, st, q⟩ := k T hT X
  exact ⟨t, X.daloadNull hexec (g := F0 m pc ls (.int i :: .null :: rest)) rfl (rest := rest) rfl (by rw [hb]; exact hdg) t st, q⟩
theorem vx_aaloadN (hexec : p.tables.exec = Jvm.exec) (hb : c.code = cc) {i : Int32} (hdg : decode cc pc = .ok (.aaload, 1)) (k : vx_NoteN p l e R s m args below meth c H locs cells slots Q (F0 m pc ls rest)) : W p l e R s m args below meth c H locs cells slots Q (F0 m pc ls (.int i :: .null :: rest)) := by
  intro T hT X
  obtain ⟨t, st, q⟩ := k T hT X
  exact ⟨t, X.aaloadNull hexec (g := F0 m pc ls (.int i :: .null :: rest)) rfl (rest := rest) rfl (by rw [hb]; exact hdg) t st, q⟩
theorem vx_baloadN (hexec : p.tables.exec = Jvm.exec) (hb : c.code = cc) {i : Int32} (hdg : decode cc pc = .ok (.baload, 1)) (k : vx_NoteN p l e R s m args below meth c H locs cells slots Q (F0 m pc ls rest)) : W p l e R s m args below meth c H locs cells slots Q (F0 m pc ls (.int i :: .null :: rest)) := by
  intro T hT X
  obtain ⟨t, st, q⟩ := k T hT X
  exact ⟨t, X.baloadNull hexec (g := F0 m pc ls (.int i :: .null :: rest)) rfl (rest := rest) rfl (by rw [hb]; exact hdg) t st, q⟩
theorem vx_caloadN (hexec : p.tables.exec = Jvm.exec) (hb : c.code = cc) {i : Int32} (hdg : decode cc pc = .ok (.caload, 1)) (k : vx_NoteN p l e R s m args below meth c H locs cells slots Q (F0 m pc ls rest)) : W p l e R s m args below meth c H locs cells slots Q (F0 m pc ls (.int i :: .null :: rest)) := by
  intro T hT X
  obtain ⟨t, st, q⟩ := k T hT X
  exact ⟨t, X.caloadNull hexec (g := F0 m pc ls (.int i :: .null :: rest)) rfl (rest := rest) rfl (by rw [hb]; exact hdg) t st, q⟩
theorem vx_saloadN (hexec : p.tables.exec = Jvm.exec) (hb : c.code = cc) {i : Int32} (hdg : decode cc pc = .ok (.saload, 1)) (k : vx_NoteN p l e R s m args below meth c H locs cells slots Q (F0 m pc ls rest)) : W p l e R s m args below meth c H locs cells slots Q (F0 m pc ls (.int i :: .null :: rest)) := by
  intro T hT X
  obtain ⟨t, st, q⟩ := k T hT X
  exact ⟨t, X.saloadNull hexec (g := F0 m pc ls (.int i :: .null :: rest)) rfl (rest := rest) rfl (by rw [hb]; exact hdg) t st, q⟩
theorem vx_iastoreN (hexec : p.tables.exec = Jvm.exec) (hb : c.code = cc) {x : Int32} {i : Int32} (hdg : decode cc pc = .ok (.iastore, 1)) (k : vx_NoteN p l e R s m args below meth c H locs cells slots Q (F0 m pc ls rest)) : W p l e R s m args below meth c H locs cells slots Q (F0 m pc ls (.int x :: .int i :: .null :: rest)) := by
  intro T hT X
  obtain ⟨t, st, q⟩ := k T hT X
  exact ⟨t, X.iastoreNull hexec (g := F0 m pc ls (.int x :: .int i :: .null :: rest)) rfl (rest := rest) rfl (by rw [hb]; exact hdg) t st, q⟩
theorem vx_lastoreN (hexec : p.tables.exec = Jvm.exec) (hb : c.code = cc) {x : Int64} {i : Int32} (hdg : decode cc pc = .ok (.lastore, 1)) (k : vx_NoteN p l e R s m args below meth c H locs cells slots Q (F0 m pc ls rest)) : W p l e R s m args below meth c H locs cells slots Q (F0 m pc ls (.long x :: .int i :: .null :: rest)) := by
  intro T hT X
  obtain ⟨t, st, q⟩ := k T hT X
  exact ⟨t, X.lastoreNull hexec (g := F0 m pc ls (.long x :: .int i :: .null :: rest)) rfl (rest := rest) rfl (by rw [hb]; exact hdg) t st, q⟩
theorem vx_fastoreN (hexec : p.tables.exec = Jvm.exec) (hb : c.code = cc) {x : UInt32} {i : Int32} (hdg : decode cc pc = .ok (.fastore, 1)) (k : vx_NoteN p l e R s m args below meth c H locs cells slots Q (F0 m pc ls rest)) : W p l e R s m args below meth c H locs cells slots Q (F0 m pc ls (.float x :: .int i :: .null :: rest)) := by
  intro T hT X
  obtain ⟨t, st, q⟩ := k T hT X
  exact ⟨t, X.fastoreNull hexec (g := F0 m pc ls (.float x :: .int i :: .null :: rest)) rfl (rest := rest) rfl (by rw [hb]; exact hdg) t st, q⟩
theorem vx_dastoreN (hexec : p.tables.exec = Jvm.exec) (hb : c.code = cc) {x : UInt64} {i : Int32} (hdg : decode cc pc = .ok (.dastore, 1)) (k : vx_NoteN p l e R s m args below meth c H locs cells slots Q (F0 m pc ls rest)) : W p l e R s m args below meth c H locs cells slots Q (F0 m pc ls (.double x :: .int i :: .null :: rest)) := by
  intro T hT X
  obtain ⟨t, st, q⟩ := k T hT X
  exact ⟨t, X.dastoreNull hexec (g := F0 m pc ls (.double x :: .int i :: .null :: rest)) rfl (rest := rest) rfl (by rw [hb]; exact hdg) t st, q⟩
theorem vx_bastoreN (hexec : p.tables.exec = Jvm.exec) (hb : c.code = cc) {x : Int32} {i : Int32} (hdg : decode cc pc = .ok (.bastore, 1)) (k : vx_NoteN p l e R s m args below meth c H locs cells slots Q (F0 m pc ls rest)) : W p l e R s m args below meth c H locs cells slots Q (F0 m pc ls (.int x :: .int i :: .null :: rest)) := by
  intro T hT X
  obtain ⟨t, st, q⟩ := k T hT X
  exact ⟨t, X.bastoreNull hexec (g := F0 m pc ls (.int x :: .int i :: .null :: rest)) rfl (rest := rest) rfl (by rw [hb]; exact hdg) t st, q⟩
theorem vx_castoreN (hexec : p.tables.exec = Jvm.exec) (hb : c.code = cc) {x : Int32} {i : Int32} (hdg : decode cc pc = .ok (.castore, 1)) (k : vx_NoteN p l e R s m args below meth c H locs cells slots Q (F0 m pc ls rest)) : W p l e R s m args below meth c H locs cells slots Q (F0 m pc ls (.int x :: .int i :: .null :: rest)) := by
  intro T hT X
  obtain ⟨t, st, q⟩ := k T hT X
  exact ⟨t, X.castoreNull hexec (g := F0 m pc ls (.int x :: .int i :: .null :: rest)) rfl (rest := rest) rfl (by rw [hb]; exact hdg) t st, q⟩
theorem vx_sastoreN (hexec : p.tables.exec = Jvm.exec) (hb : c.code = cc) {x : Int32} {i : Int32} (hdg : decode cc pc = .ok (.sastore, 1)) (k : vx_NoteN p l e R s m args below meth c H locs cells slots Q (F0 m pc ls rest)) : W p l e R s m args below meth c H locs cells slots Q (F0 m pc ls (.int x :: .int i :: .null :: rest)) := by
  intro T hT X
  obtain ⟨t, st, q⟩ := k T hT X
  exact ⟨t, X.sastoreNull hexec (g := F0 m pc ls (.int x :: .int i :: .null :: rest)) rfl (rest := rest) rfl (by rw [hb]; exact hdg) t st, q⟩
theorem vx_invokeN {own C : String} {index maxL : Nat} {y : MethodName} {bytes : ByteArray} {ret : Option FieldType} (hexec : p.tables.exec = Jvm.exec) (hb : c.code = cc) (hown : s.vm.findClass own = some m.cls) (hlink : (Cond.methodLink own index y).before args s = true) (hinst : (Cond.instanceMethod y).before args s = true) (hcode : (Cond.code y bytes maxL ret).before args s = true) (hsel : (Cond.selects C y y).before args s = true)
    (hx : y.cls ≠ "java/lang/invoke/MethodHandle" ∧ y.cls ≠ "java/lang/invoke/VarHandle") {As : List Value} (hlen : (parseMethodDescriptor y.desc).map (fun d => d.parameters.length) = some As.length) (hdg : decode cc pc = .ok (.invokevirtual index, 3))
    (k : vx_NoteN p l e R s m args below meth c H locs cells slots Q (F0 m pc ls rest)) {st0 : List Value} (hst : st0 = As.reverse ++ .null :: rest) : W p l e R s m args below meth c H locs cells slots Q (F0 m pc ls st0) := by
  intro T hT X
  obtain ⟨r0, r, hn, hrm, hstR, hsigR⟩ := va_Decl.of hinst hcode
  obtain ⟨c2, r2, m2, q1, q2, q3, q4, kP, hkP, hkPi⟩ := Cond.selects_spec hsel
  cases hn.symm.trans q3
  have hl9 : As.length = r.sig.parameters.length := by
    rw [hsigR] at hlen
    exact (Option.some.inj hlen).symm
  obtain ⟨vm', X1, st1⟩ := X.invokevirtualNull hexec hown hlink hn hrm hstR hkP hkPi hx (g := F0 m pc ls st0) rfl (argsL := As) (rest := rest) hl9 hst (by rw [hb]; exact hdg)
  obtain ⟨t, st, q⟩ := k (T.setVm vm') hT X1
  exact ⟨t, st1 t st, q⟩
theorem vx_newarrayZ {atype : ArrayType} (hexec : p.tables.exec = Jvm.exec) (hb : c.code = cc) {n : Int32} (h0 : n < 0) (hdg : decode cc pc = .ok (.newarray atype, 2)) (k : ∀ tx : String, tx = toString n → vx_Note p l e R s m args below meth c H locs cells slots Q (F0 m pc ls rest) "java/lang/NegativeArraySizeException" tx) : W p l e R s m args below meth c H locs cells slots Q (F0 m pc ls (.int n :: rest)) := by
  intro T hT X
  obtain ⟨t, st, q⟩ := k _ rfl T hT X
  exact ⟨t, X.newarrayNegative hexec (g := F0 m pc ls (.int n :: rest)) rfl h0 (rest := rest) rfl (by rw [hb]; exact hdg) t st, q⟩
end
end VXM
/-! ===== END ===== -/

/-- a private method of a class that the tables say can be made, by its rows of tables_1 -/
def lw_okq (q : MethodName × Nat) : Prop := (q.1.cls ≠ "java/lang/invoke/MethodHandle" ∧ q.1.cls ≠ "java/lang/invoke/VarHandle") ∧ Cond.instantiable q.1.cls q.2 ∈ tables_1 ∧ Cond.privateMethod q.1 ∈ tables_1 ∧ Cond.instanceMethod q.1 ∈ tables_1
theorem lw_p0 : lw_okq (⟨"TrainingDiary", "sumOfLoads", "(II)I"⟩, 12) := ⟨⟨by decide +kernel, by decide +kernel⟩, List.mem_of_getElem? (i := 25) (by decide +kernel), List.mem_of_getElem? (i := 316) (by decide +kernel), List.mem_of_getElem? (i := 317) (by decide +kernel)⟩
theorem lw_p1 : lw_okq (⟨"TrainingDiary", "learnTrend", "(I)V"⟩, 12) := ⟨⟨by decide +kernel, by decide +kernel⟩, List.mem_of_getElem? (i := 25) (by decide +kernel), List.mem_of_getElem? (i := 324) (by decide +kernel), List.mem_of_getElem? (i := 325) (by decide +kernel)⟩
theorem lw_p2 : lw_okq (⟨"TrainingDiary", "followPlan", "()V"⟩, 12) := ⟨⟨by decide +kernel, by decide +kernel⟩, List.mem_of_getElem? (i := 25) (by decide +kernel), List.mem_of_getElem? (i := 391) (by decide +kernel), List.mem_of_getElem? (i := 392) (by decide +kernel)⟩
theorem lw_p3 : lw_okq (⟨"java/lang/Throwable", "fillInStackTrace", "(I)Ljava/lang/Throwable;"⟩, 6) := ⟨⟨by decide +kernel, by decide +kernel⟩, List.mem_of_getElem? (i := 465) (by decide +kernel), List.mem_of_getElem? (i := 463) (by decide +kernel), List.mem_of_getElem? (i := 464) (by decide +kernel)⟩
theorem lw_p4 : lw_okq (⟨"TrainingDiary", "requireDayUpToToday", "(I)V"⟩, 12) := ⟨⟨by decide +kernel, by decide +kernel⟩, List.mem_of_getElem? (i := 25) (by decide +kernel), List.mem_of_getElem? (i := 518) (by decide +kernel), List.mem_of_getElem? (i := 519) (by decide +kernel)⟩
theorem lw_p5 : lw_okq (⟨"TrainingDiary$Sessions", "settle", "(I)V"⟩, 3) := ⟨⟨by decide +kernel, by decide +kernel⟩, List.mem_of_getElem? (i := 85) (by decide +kernel), List.mem_of_getElem? (i := 636) (by decide +kernel), List.mem_of_getElem? (i := 637) (by decide +kernel)⟩
theorem lw_p6 : lw_okq (⟨"TrainingDiary", "existingSession", "(I)LTrainingDiary$Session;"⟩, 12) := ⟨⟨by decide +kernel, by decide +kernel⟩, List.mem_of_getElem? (i := 25) (by decide +kernel), List.mem_of_getElem? (i := 651) (by decide +kernel), List.mem_of_getElem? (i := 652) (by decide +kernel)⟩
theorem lw_p7 : lw_okq (⟨"TrainingDiary", "existingPosition", "(I)I"⟩, 12) := ⟨⟨by decide +kernel, by decide +kernel⟩, List.mem_of_getElem? (i := 25) (by decide +kernel), List.mem_of_getElem? (i := 655) (by decide +kernel), List.mem_of_getElem? (i := 656) (by decide +kernel)⟩
theorem lw_p8 : lw_okq (⟨"TrainingDiary", "requireRowOfDays", "(I)V"⟩, 12) := ⟨⟨by decide +kernel, by decide +kernel⟩, List.mem_of_getElem? (i := 25) (by decide +kernel), List.mem_of_getElem? (i := 864) (by decide +kernel), List.mem_of_getElem? (i := 865) (by decide +kernel)⟩
theorem lw_p9 : lw_okq (⟨"TrainingDiary", "startOfBestDays", "(I)I"⟩, 12) := ⟨⟨by decide +kernel, by decide +kernel⟩, List.mem_of_getElem? (i := 25) (by decide +kernel), List.mem_of_getElem? (i := 869) (by decide +kernel), List.mem_of_getElem? (i := 870) (by decide +kernel)⟩
theorem lw_p10 : lw_okq (⟨"TrainingDiary", "positionOfBestEffort", "(I)I"⟩, 12) := ⟨⟨by decide +kernel, by decide +kernel⟩, List.mem_of_getElem? (i := 25) (by decide +kernel), List.mem_of_getElem? (i := 897) (by decide +kernel), List.mem_of_getElem? (i := 898) (by decide +kernel)⟩
theorem lw_p11 : lw_okq (⟨"TrainingDiary", "requireRowOfMinutes", "(I)V"⟩, 12) := ⟨⟨by decide +kernel, by decide +kernel⟩, List.mem_of_getElem? (i := 25) (by decide +kernel), List.mem_of_getElem? (i := 901) (by decide +kernel), List.mem_of_getElem? (i := 902) (by decide +kernel)⟩
theorem lw_p12 : lw_okq (⟨"TrainingDiary", "effortBySums", "(LTrainingDiary$Session;I)I"⟩, 12) := ⟨⟨by decide +kernel, by decide +kernel⟩, List.mem_of_getElem? (i := 25) (by decide +kernel), List.mem_of_getElem? (i := 911) (by decide +kernel), List.mem_of_getElem? (i := 912) (by decide +kernel)⟩
theorem lw_p13 : lw_okq (⟨"TrainingDiary", "effortByTrying", "(LTrainingDiary$Session;I)I"⟩, 12) := ⟨⟨by decide +kernel, by decide +kernel⟩, List.mem_of_getElem? (i := 25) (by decide +kernel), List.mem_of_getElem? (i := 926) (by decide +kernel), List.mem_of_getElem? (i := 927) (by decide +kernel)⟩
theorem lw_p14 : lw_okq (⟨"TrainingDiary", "existingDueEntry", "()I"⟩, 12) := ⟨⟨by decide +kernel, by decide +kernel⟩, List.mem_of_getElem? (i := 25) (by decide +kernel), List.mem_of_getElem? (i := 964) (by decide +kernel), List.mem_of_getElem? (i := 965) (by decide +kernel)⟩
theorem lw_p15 : lw_okq (⟨"TrainingDiary", "signOfDay", "(I)C"⟩, 12) := ⟨⟨by decide +kernel, by decide +kernel⟩, List.mem_of_getElem? (i := 25) (by decide +kernel), List.mem_of_getElem? (i := 983) (by decide +kernel), List.mem_of_getElem? (i := 984) (by decide +kernel)⟩
def lw_privs_1 : List (MethodName × Nat) := [(⟨"TrainingDiary", "sumOfLoads", "(II)I"⟩, 12), (⟨"TrainingDiary", "learnTrend", "(I)V"⟩, 12), (⟨"TrainingDiary", "followPlan", "()V"⟩, 12), (⟨"java/lang/Throwable", "fillInStackTrace", "(I)Ljava/lang/Throwable;"⟩, 6), (⟨"TrainingDiary", "requireDayUpToToday", "(I)V"⟩, 12), (⟨"TrainingDiary$Sessions", "settle", "(I)V"⟩, 3), (⟨"TrainingDiary", "existingSession", "(I)LTrainingDiary$Session;"⟩, 12), (⟨"TrainingDiary", "existingPosition", "(I)I"⟩, 12), (⟨"TrainingDiary", "requireRowOfDays", "(I)V"⟩, 12), (⟨"TrainingDiary", "startOfBestDays", "(I)I"⟩, 12), (⟨"TrainingDiary", "positionOfBestEffort", "(I)I"⟩, 12), (⟨"TrainingDiary", "requireRowOfMinutes", "(I)V"⟩, 12), (⟨"TrainingDiary", "effortBySums", "(LTrainingDiary$Session;I)I"⟩, 12), (⟨"TrainingDiary", "effortByTrying", "(LTrainingDiary$Session;I)I"⟩, 12), (⟨"TrainingDiary", "existingDueEntry", "()I"⟩, 12), (⟨"TrainingDiary", "signOfDay", "(I)C"⟩, 12)]
theorem lw_r1 : ∀ q ∈ lw_privs_1, lw_okq q := List.forall_mem_cons.mpr ⟨lw_p0, List.forall_mem_cons.mpr ⟨lw_p1, List.forall_mem_cons.mpr ⟨lw_p2, List.forall_mem_cons.mpr ⟨lw_p3, List.forall_mem_cons.mpr ⟨lw_p4, List.forall_mem_cons.mpr ⟨lw_p5, List.forall_mem_cons.mpr ⟨lw_p6, List.forall_mem_cons.mpr ⟨lw_p7, List.forall_mem_cons.mpr ⟨lw_p8, List.forall_mem_cons.mpr ⟨lw_p9, List.forall_mem_cons.mpr ⟨lw_p10, List.forall_mem_cons.mpr ⟨lw_p11, List.forall_mem_cons.mpr ⟨lw_p12, List.forall_mem_cons.mpr ⟨lw_p13, List.forall_mem_cons.mpr ⟨lw_p14, List.forall_mem_cons.mpr ⟨lw_p15, fun _ h => absurd h List.not_mem_nil⟩⟩⟩⟩⟩⟩⟩⟩⟩⟩⟩⟩⟩⟩⟩⟩
theorem lw_p16 : lw_okq (⟨"TrainingDiaryModel", "isThrown", "(ZI)Z"⟩, 14) := ⟨⟨by decide +kernel, by decide +kernel⟩, List.mem_of_getElem? (i := 1023) (by decide +kernel), List.mem_of_getElem? (i := 1085) (by decide +kernel), List.mem_of_getElem? (i := 1086) (by decide +kernel)⟩
theorem lw_p17 : lw_okq (⟨"TrainingDiaryModel", "keeps", "()V"⟩, 14) := ⟨⟨by decide +kernel, by decide +kernel⟩, List.mem_of_getElem? (i := 1023) (by decide +kernel), List.mem_of_getElem? (i := 1089) (by decide +kernel), List.mem_of_getElem? (i := 1090) (by decide +kernel)⟩
theorem lw_p18 : lw_okq (⟨"TrainingDiaryModel", "isNoDay", "(I)Z"⟩, 14) := ⟨⟨by decide +kernel, by decide +kernel⟩, List.mem_of_getElem? (i := 1023) (by decide +kernel), List.mem_of_getElem? (i := 1102) (by decide +kernel), List.mem_of_getElem? (i := 1103) (by decide +kernel)⟩
theorem lw_p19 : lw_okq (⟨"TrainingDiaryModel", "testOn", "(I)I"⟩, 14) := ⟨⟨by decide +kernel, by decide +kernel⟩, List.mem_of_getElem? (i := 1023) (by decide +kernel), List.mem_of_getElem? (i := 1106) (by decide +kernel), List.mem_of_getElem? (i := 1107) (by decide +kernel)⟩
theorem lw_p20 : lw_okq (⟨"TrainingDiaryModel", "loadAt", "(I)I"⟩, 14) := ⟨⟨by decide +kernel, by decide +kernel⟩, List.mem_of_getElem? (i := 1023) (by decide +kernel), List.mem_of_getElem? (i := 1110) (by decide +kernel), List.mem_of_getElem? (i := 1111) (by decide +kernel)⟩
theorem lw_p21 : lw_okq (⟨"TrainingDiaryModel", "noZones", "()V"⟩, 14) := ⟨⟨by decide +kernel, by decide +kernel⟩, List.mem_of_getElem? (i := 1023) (by decide +kernel), List.mem_of_getElem? (i := 1114) (by decide +kernel), List.mem_of_getElem? (i := 1115) (by decide +kernel)⟩
theorem lw_p22 : lw_okq (⟨"TrainingDiaryModel", "zones", "(I)V"⟩, 14) := ⟨⟨by decide +kernel, by decide +kernel⟩, List.mem_of_getElem? (i := 1023) (by decide +kernel), List.mem_of_getElem? (i := 1118) (by decide +kernel), List.mem_of_getElem? (i := 1119) (by decide +kernel)⟩
theorem lw_p23 : lw_okq (⟨"TrainingDiaryModel", "at", "(I)I"⟩, 14) := ⟨⟨by decide +kernel, by decide +kernel⟩, List.mem_of_getElem? (i := 1023) (by decide +kernel), List.mem_of_getElem? (i := 1122) (by decide +kernel), List.mem_of_getElem? (i := 1123) (by decide +kernel)⟩
theorem lw_p24 : lw_okq (⟨"TrainingDiaryModel", "zone", "(II)I"⟩, 14) := ⟨⟨by decide +kernel, by decide +kernel⟩, List.mem_of_getElem? (i := 1023) (by decide +kernel), List.mem_of_getElem? (i := 1126) (by decide +kernel), List.mem_of_getElem? (i := 1127) (by decide +kernel)⟩
theorem lw_p25 : lw_okq (⟨"TrainingDiaryModel", "threshold", "(I)I"⟩, 14) := ⟨⟨by decide +kernel, by decide +kernel⟩, List.mem_of_getElem? (i := 1023) (by decide +kernel), List.mem_of_getElem? (i := 1130) (by decide +kernel), List.mem_of_getElem? (i := 1131) (by decide +kernel)⟩
theorem lw_p26 : lw_okq (⟨"TrainingDiaryModel", "place", "(I)I"⟩, 14) := ⟨⟨by decide +kernel, by decide +kernel⟩, List.mem_of_getElem? (i := 1023) (by decide +kernel), List.mem_of_getElem? (i := 1174) (by decide +kernel), List.mem_of_getElem? (i := 1175) (by decide +kernel)⟩
theorem lw_p27 : lw_okq (⟨"TrainingDiaryModel", "minutes", "(I)I"⟩, 14) := ⟨⟨by decide +kernel, by decide +kernel⟩, List.mem_of_getElem? (i := 1023) (by decide +kernel), List.mem_of_getElem? (i := 1178) (by decide +kernel), List.mem_of_getElem? (i := 1179) (by decide +kernel)⟩
theorem lw_p28 : lw_okq (⟨"TrainingDiaryModel", "isNoSession", "(I)Z"⟩, 14) := ⟨⟨by decide +kernel, by decide +kernel⟩, List.mem_of_getElem? (i := 1023) (by decide +kernel), List.mem_of_getElem? (i := 1186) (by decide +kernel), List.mem_of_getElem? (i := 1187) (by decide +kernel)⟩
theorem lw_p29 : lw_okq (⟨"TrainingDiaryModel", "ranked", "(I)I"⟩, 14) := ⟨⟨by decide +kernel, by decide +kernel⟩, List.mem_of_getElem? (i := 1023) (by decide +kernel), List.mem_of_getElem? (i := 1206) (by decide +kernel), List.mem_of_getElem? (i := 1207) (by decide +kernel)⟩
theorem lw_p30 : lw_okq (⟨"TrainingDiaryModel", "loads", "()V"⟩, 14) := ⟨⟨by decide +kernel, by decide +kernel⟩, List.mem_of_getElem? (i := 1023) (by decide +kernel), List.mem_of_getElem? (i := 1230) (by decide +kernel), List.mem_of_getElem? (i := 1231) (by decide +kernel)⟩
theorem lw_p31 : lw_okq (⟨"TrainingDiaryModel", "decayed", "(II)I"⟩, 14) := ⟨⟨by decide +kernel, by decide +kernel⟩, List.mem_of_getElem? (i := 1023) (by decide +kernel), List.mem_of_getElem? (i := 1246) (by decide +kernel), List.mem_of_getElem? (i := 1247) (by decide +kernel)⟩
def lw_privs_2 : List (MethodName × Nat) := [(⟨"TrainingDiaryModel", "isThrown", "(ZI)Z"⟩, 14), (⟨"TrainingDiaryModel", "keeps", "()V"⟩, 14), (⟨"TrainingDiaryModel", "isNoDay", "(I)Z"⟩, 14), (⟨"TrainingDiaryModel", "testOn", "(I)I"⟩, 14), (⟨"TrainingDiaryModel", "loadAt", "(I)I"⟩, 14), (⟨"TrainingDiaryModel", "noZones", "()V"⟩, 14), (⟨"TrainingDiaryModel", "zones", "(I)V"⟩, 14), (⟨"TrainingDiaryModel", "at", "(I)I"⟩, 14), (⟨"TrainingDiaryModel", "zone", "(II)I"⟩, 14), (⟨"TrainingDiaryModel", "threshold", "(I)I"⟩, 14), (⟨"TrainingDiaryModel", "place", "(I)I"⟩, 14), (⟨"TrainingDiaryModel", "minutes", "(I)I"⟩, 14), (⟨"TrainingDiaryModel", "isNoSession", "(I)Z"⟩, 14), (⟨"TrainingDiaryModel", "ranked", "(I)I"⟩, 14), (⟨"TrainingDiaryModel", "loads", "()V"⟩, 14), (⟨"TrainingDiaryModel", "decayed", "(II)I"⟩, 14)]
theorem lw_r2 : ∀ q ∈ lw_privs_2, lw_okq q := List.forall_mem_cons.mpr ⟨lw_p16, List.forall_mem_cons.mpr ⟨lw_p17, List.forall_mem_cons.mpr ⟨lw_p18, List.forall_mem_cons.mpr ⟨lw_p19, List.forall_mem_cons.mpr ⟨lw_p20, List.forall_mem_cons.mpr ⟨lw_p21, List.forall_mem_cons.mpr ⟨lw_p22, List.forall_mem_cons.mpr ⟨lw_p23, List.forall_mem_cons.mpr ⟨lw_p24, List.forall_mem_cons.mpr ⟨lw_p25, List.forall_mem_cons.mpr ⟨lw_p26, List.forall_mem_cons.mpr ⟨lw_p27, List.forall_mem_cons.mpr ⟨lw_p28, List.forall_mem_cons.mpr ⟨lw_p29, List.forall_mem_cons.mpr ⟨lw_p30, List.forall_mem_cons.mpr ⟨lw_p31, fun _ h => absurd h List.not_mem_nil⟩⟩⟩⟩⟩⟩⟩⟩⟩⟩⟩⟩⟩⟩⟩⟩
theorem lw_p32 : lw_okq (⟨"TrainingDiaryModel", "form", "(I)I"⟩, 14) := ⟨⟨by decide +kernel, by decide +kernel⟩, List.mem_of_getElem? (i := 1023) (by decide +kernel), List.mem_of_getElem? (i := 1268) (by decide +kernel), List.mem_of_getElem? (i := 1269) (by decide +kernel)⟩
theorem lw_p33 : lw_okq (⟨"TrainingDiaryModel", "isNoRow", "(I)Z"⟩, 14) := ⟨⟨by decide +kernel, by decide +kernel⟩, List.mem_of_getElem? (i := 1023) (by decide +kernel), List.mem_of_getElem? (i := 1286) (by decide +kernel), List.mem_of_getElem? (i := 1287) (by decide +kernel)⟩
theorem lw_p34 : lw_okq (⟨"TrainingDiaryModel", "bestRow", "(I)I"⟩, 14) := ⟨⟨by decide +kernel, by decide +kernel⟩, List.mem_of_getElem? (i := 1023) (by decide +kernel), List.mem_of_getElem? (i := 1290) (by decide +kernel), List.mem_of_getElem? (i := 1291) (by decide +kernel)⟩
theorem lw_p35 : lw_okq (⟨"TrainingDiaryModel", "row", "(II)I"⟩, 14) := ⟨⟨by decide +kernel, by decide +kernel⟩, List.mem_of_getElem? (i := 1023) (by decide +kernel), List.mem_of_getElem? (i := 1294) (by decide +kernel), List.mem_of_getElem? (i := 1295) (by decide +kernel)⟩
theorem lw_p36 : lw_okq (⟨"TrainingDiaryModel", "isNoEffort", "(I)Z"⟩, 14) := ⟨⟨by decide +kernel, by decide +kernel⟩, List.mem_of_getElem? (i := 1023) (by decide +kernel), List.mem_of_getElem? (i := 1311) (by decide +kernel), List.mem_of_getElem? (i := 1312) (by decide +kernel)⟩
theorem lw_p37 : lw_okq (⟨"TrainingDiaryModel", "strongest", "(I)I"⟩, 14) := ⟨⟨by decide +kernel, by decide +kernel⟩, List.mem_of_getElem? (i := 1023) (by decide +kernel), List.mem_of_getElem? (i := 1315) (by decide +kernel), List.mem_of_getElem? (i := 1316) (by decide +kernel)⟩
theorem lw_p38 : lw_okq (⟨"TrainingDiaryModel", "effort", "(II)I"⟩, 14) := ⟨⟨by decide +kernel, by decide +kernel⟩, List.mem_of_getElem? (i := 1023) (by decide +kernel), List.mem_of_getElem? (i := 1319) (by decide +kernel), List.mem_of_getElem? (i := 1320) (by decide +kernel)⟩
theorem lw_p39 : lw_okq (⟨"TrainingDiaryModel", "intensity", "(II)I"⟩, 14) := ⟨⟨by decide +kernel, by decide +kernel⟩, List.mem_of_getElem? (i := 1023) (by decide +kernel), List.mem_of_getElem? (i := 1323) (by decide +kernel), List.mem_of_getElem? (i := 1324) (by decide +kernel)⟩
theorem lw_p40 : lw_okq (⟨"TrainingDiaryModel", "goes", "()Z"⟩, 14) := ⟨⟨by decide +kernel, by decide +kernel⟩, List.mem_of_getElem? (i := 1023) (by decide +kernel), List.mem_of_getElem? (i := 1353) (by decide +kernel), List.mem_of_getElem? (i := 1354) (by decide +kernel)⟩
theorem lw_p41 : lw_okq (⟨"TrainingDiaryModel", "told", "(I)C"⟩, 14) := ⟨⟨by decide +kernel, by decide +kernel⟩, List.mem_of_getElem? (i := 1023) (by decide +kernel), List.mem_of_getElem? (i := 1377) (by decide +kernel), List.mem_of_getElem? (i := 1378) (by decide +kernel)⟩
def lw_privs_3 : List (MethodName × Nat) := [(⟨"TrainingDiaryModel", "form", "(I)I"⟩, 14), (⟨"TrainingDiaryModel", "isNoRow", "(I)Z"⟩, 14), (⟨"TrainingDiaryModel", "bestRow", "(I)I"⟩, 14), (⟨"TrainingDiaryModel", "row", "(II)I"⟩, 14), (⟨"TrainingDiaryModel", "isNoEffort", "(I)Z"⟩, 14), (⟨"TrainingDiaryModel", "strongest", "(I)I"⟩, 14), (⟨"TrainingDiaryModel", "effort", "(II)I"⟩, 14), (⟨"TrainingDiaryModel", "intensity", "(II)I"⟩, 14), (⟨"TrainingDiaryModel", "goes", "()Z"⟩, 14), (⟨"TrainingDiaryModel", "told", "(I)C"⟩, 14)]
theorem lw_r3 : ∀ q ∈ lw_privs_3, lw_okq q := List.forall_mem_cons.mpr ⟨lw_p32, List.forall_mem_cons.mpr ⟨lw_p33, List.forall_mem_cons.mpr ⟨lw_p34, List.forall_mem_cons.mpr ⟨lw_p35, List.forall_mem_cons.mpr ⟨lw_p36, List.forall_mem_cons.mpr ⟨lw_p37, List.forall_mem_cons.mpr ⟨lw_p38, List.forall_mem_cons.mpr ⟨lw_p39, List.forall_mem_cons.mpr ⟨lw_p40, List.forall_mem_cons.mpr ⟨lw_p41, fun _ h => absurd h List.not_mem_nil⟩⟩⟩⟩⟩⟩⟩⟩⟩⟩
def lw_privs : List (MethodName × Nat) := lw_privs_1 ++ (lw_privs_2 ++ (lw_privs_3))
def lw_tbl : List Cond := k2_sels lw_privs ++ tables_1
theorem lw_privs_ok : ∀ q ∈ lw_privs, lw_okq q := by
  show ∀ q ∈ lw_privs_1 ++ (lw_privs_2 ++ (lw_privs_3)), lw_okq q
  exact List.forall_mem_append.mpr ⟨lw_r1, List.forall_mem_append.mpr ⟨lw_r2, lw_r3⟩⟩
/-- the streams that the claim lets the run draw from -/
abbrev lw_cs : List Choice := [Jvm.Choice.named "NaN.bits"]
theorem lw_bits : nanBits ∈ lw_cs := by first | decide | exact List.mem_cons_self | simp [lw_cs, nanBits]
end
section
/-! ===== BEGIN printed: names, fields, word lists, decode rows ===== -/
def RX0 : String := "TrainingDiary$Course"
def TX0 : u_T := fun k => match k with
  | 0 => ("TrainingDiary$Course", "dueEntry", "I", false)
  | 1 => ("TrainingDiary$Course", "missedDays", "I", false)
  | _ => ("TrainingDiary$Course", "droppedEntries", "I", false)
def tyX0 : Nat → FieldType := fun k => match k with
  | 0 => .int
  | 1 => .int
  | _ => .int
abbrev wsX00 : List Cond := u_ws RX0 TX0 3
theorem nmX0 : ∀ a, a < 3 → ∀ b, b < 3 → a ≠ b → (TX0 a).2.1 ≠ (TX0 b).2.1 := by decide +kernel
theorem tyX0_ok : ∀ k, k < 3 → parseFieldDescriptor (TX0 k).2.2.1 = some (tyX0 k) := by decide +kernel
abbrev cX0_init : ByteArray := prog_2_method_1_code
def yX0_init : MethodName := ⟨RX0, "<init>", "()V"⟩
abbrev cX0_follow : ByteArray := prog_2_method_2_code
def yX0_follow : MethodName := ⟨RX0, "follow", "(LTrainingDiary$Plan;I[I)V"⟩
def RX1 : String := "TrainingDiary$History"
def TX1 : u_T := fun k => match k with
  | 0 => ("TrainingDiary$History", "states", "[LTrainingDiary$State;", true)
  | 1 => ("TrainingDiary$History", "next", "I", false)
  | _ => ("TrainingDiary$History", "count", "I", false)
def tyX1 : Nat → FieldType := fun k => match k with
  | 0 => .array (.object "TrainingDiary$State")
  | 1 => .int
  | _ => .int
abbrev wsX10 : List Cond := u_ws RX1 TX1 3
theorem nmX1 : ∀ a, a < 3 → ∀ b, b < 3 → a ≠ b → (TX1 a).2.1 ≠ (TX1 b).2.1 := by decide +kernel
theorem tyX1_ok : ∀ k, k < 3 → parseFieldDescriptor (TX1 k).2.2.1 = some (tyX1 k) := by decide +kernel
abbrev cX1_init : ByteArray := prog_3_method_1_code
def yX1_init : MethodName := ⟨RX1, "<init>", "()V"⟩
abbrev cX1_keep : ByteArray := prog_3_method_2_code
def yX1_keep : MethodName := ⟨RX1, "keep", "(LTrainingDiary$State;)V"⟩
abbrev cX1_takeBack : ByteArray := prog_3_method_3_code
def yX1_takeBack : MethodName := ⟨RX1, "takeBack", "(LTrainingDiary$State;)V"⟩
abbrev cX1_forget : ByteArray := prog_3_method_4_code
def yX1_forget : MethodName := ⟨RX1, "forget", "()V"⟩
def RX2 : String := "TrainingDiary$Plan"
def TX2 : u_T := fun k => match k with
  | 0 => ("TrainingDiary$Plan", "exists", "Z", false)
  | 1 => ("TrainingDiary$Plan", "firstDay", "I", false)
  | 2 => ("TrainingDiary$Plan", "entryCount", "I", false)
  | _ => ("TrainingDiary$Plan", "targets", "[I", true)
def tyX2 : Nat → FieldType := fun k => match k with
  | 0 => .boolean
  | 1 => .int
  | 2 => .int
  | _ => .array .int
abbrev wsX20 : List Cond := u_ws RX2 TX2 4
theorem nmX2 : ∀ a, a < 4 → ∀ b, b < 4 → a ≠ b → (TX2 a).2.1 ≠ (TX2 b).2.1 := by decide +kernel
theorem tyX2_ok : ∀ k, k < 4 → parseFieldDescriptor (TX2 k).2.2.1 = some (tyX2 k) := by decide +kernel
abbrev cX2_init : ByteArray := prog_4_method_1_code
def yX2_init : MethodName := ⟨RX2, "<init>", "()V"⟩
abbrev cX2_copyFrom : ByteArray := prog_4_method_2_code
def yX2_copyFrom : MethodName := ⟨RX2, "copyFrom", "(LTrainingDiary$Plan;)V"⟩
abbrev cX2_start : ByteArray := prog_4_method_3_code
def yX2_start : MethodName := ⟨RX2, "start", "(I)V"⟩
abbrev cX2_append : ByteArray := prog_4_method_4_code
def yX2_append : MethodName := ⟨RX2, "append", "(I)V"⟩
def RX3 : String := "TrainingDiary$Session"
def TX3 : u_T := fun k => match k with
  | 0 => ("TrainingDiary$Session", "id", "I", false)
  | 1 => ("TrainingDiary$Session", "day", "I", false)
  | 2 => ("TrainingDiary$Session", "partCount", "I", false)
  | 3 => ("TrainingDiary$Session", "minutes", "[I", true)
  | _ => ("TrainingDiary$Session", "intensities", "[I", true)
def tyX3 : Nat → FieldType := fun k => match k with
  | 0 => .int
  | 1 => .int
  | 2 => .int
  | 3 => .array .int
  | _ => .array .int
abbrev wsX30 : List Cond := u_ws RX3 TX3 5
theorem nmX3 : ∀ a, a < 5 → ∀ b, b < 5 → a ≠ b → (TX3 a).2.1 ≠ (TX3 b).2.1 := by decide +kernel
theorem tyX3_ok : ∀ k, k < 5 → parseFieldDescriptor (TX3 k).2.2.1 = some (tyX3 k) := by decide +kernel
abbrev cX3_init : ByteArray := prog_5_method_1_code
def yX3_init : MethodName := ⟨RX3, "<init>", "()V"⟩
abbrev cX3_copyFrom : ByteArray := prog_5_method_2_code
def yX3_copyFrom : MethodName := ⟨RX3, "copyFrom", "(LTrainingDiary$Session;)V"⟩
abbrev cX3_comesBefore : ByteArray := prog_5_method_3_code
def yX3_comesBefore : MethodName := ⟨RX3, "comesBefore", "(LTrainingDiary$Session;)Z"⟩
abbrev cX3_append : ByteArray := prog_5_method_4_code
def yX3_append : MethodName := ⟨RX3, "append", "(II)V"⟩
abbrev cX3_length : ByteArray := prog_5_method_5_code
def yX3_length : MethodName := ⟨RX3, "length", "()I"⟩
abbrev cX3_fillMinutes : ByteArray := prog_5_method_6_code
def yX3_fillMinutes : MethodName := ⟨RX3, "fillMinutes", "([I)I"⟩
def RX4 : String := "TrainingDiary$Sessions"
def TX4 : u_T := fun k => match k with
  | 0 => ("TrainingDiary$Sessions", "inOrder", "[LTrainingDiary$Session;", true)
  | 1 => ("TrainingDiary$Sessions", "count", "I", false)
  | _ => ("TrainingDiary$Sessions", "nextId", "I", false)
def tyX4 : Nat → FieldType := fun k => match k with
  | 0 => .array (.object "TrainingDiary$Session")
  | 1 => .int
  | _ => .int
abbrev wsX40 : List Cond := u_ws RX4 TX4 3
theorem nmX4 : ∀ a, a < 3 → ∀ b, b < 3 → a ≠ b → (TX4 a).2.1 ≠ (TX4 b).2.1 := by decide +kernel
theorem tyX4_ok : ∀ k, k < 3 → parseFieldDescriptor (TX4 k).2.2.1 = some (tyX4 k) := by decide +kernel
abbrev cX4_init : ByteArray := prog_6_method_1_code
def yX4_init : MethodName := ⟨RX4, "<init>", "()V"⟩
abbrev cX4_copyFrom : ByteArray := prog_6_method_2_code
def yX4_copyFrom : MethodName := ⟨RX4, "copyFrom", "(LTrainingDiary$Sessions;)V"⟩
abbrev cX4_positionWithId : ByteArray := prog_6_method_3_code
def yX4_positionWithId : MethodName := ⟨RX4, "positionWithId", "(I)I"⟩
abbrev cX4_anyOn : ByteArray := prog_6_method_4_code
def yX4_anyOn : MethodName := ⟨RX4, "anyOn", "(I)Z"⟩
abbrev cX4_hasLength : ByteArray := prog_6_method_5_code
def yX4_hasLength : MethodName := ⟨RX4, "hasLength", "(I)Z"⟩
abbrev cX4_add : ByteArray := prog_6_method_6_code
def yX4_add : MethodName := ⟨RX4, "add", "(I)I"⟩
abbrev cX4_moveAt : ByteArray := prog_6_method_7_code
def yX4_moveAt : MethodName := ⟨RX4, "moveAt", "(II)I"⟩
abbrev cX4_removeAt : ByteArray := prog_6_method_8_code
def yX4_removeAt : MethodName := ⟨RX4, "removeAt", "(I)I"⟩
abbrev cX4_settle : ByteArray := prog_6_method_9_code
def yX4_settle : MethodName := ⟨RX4, "settle", "(I)V"⟩
def RX5 : String := "TrainingDiary$State"
def TX5 : u_T := fun k => match k with
  | 0 => ("TrainingDiary$State", "today", "I", false)
  | 1 => ("TrainingDiary$State", "tests", "LTrainingDiary$Tests;", true)
  | 2 => ("TrainingDiary$State", "zones", "LTrainingDiary$Zones;", true)
  | 3 => ("TrainingDiary$State", "sessions", "LTrainingDiary$Sessions;", true)
  | _ => ("TrainingDiary$State", "plan", "LTrainingDiary$Plan;", true)
def tyX5 : Nat → FieldType := fun k => match k with
  | 0 => .int
  | 1 => .object "TrainingDiary$Tests"
  | 2 => .object "TrainingDiary$Zones"
  | 3 => .object "TrainingDiary$Sessions"
  | _ => .object "TrainingDiary$Plan"
abbrev wsX50 : List Cond := u_ws RX5 TX5 5
theorem nmX5 : ∀ a, a < 5 → ∀ b, b < 5 → a ≠ b → (TX5 a).2.1 ≠ (TX5 b).2.1 := by decide +kernel
theorem tyX5_ok : ∀ k, k < 5 → parseFieldDescriptor (TX5 k).2.2.1 = some (tyX5 k) := by decide +kernel
abbrev cX5_init : ByteArray := prog_7_method_1_code
def yX5_init : MethodName := ⟨RX5, "<init>", "()V"⟩
abbrev cX5_copyFrom : ByteArray := prog_7_method_2_code
def yX5_copyFrom : MethodName := ⟨RX5, "copyFrom", "(LTrainingDiary$State;)V"⟩
abbrev cX5_addZoneMinutes : ByteArray := prog_7_method_3_code
def yX5_addZoneMinutes : MethodName := ⟨RX5, "addZoneMinutes", "(LTrainingDiary$Session;[I)V"⟩
abbrev cX5_sessionLoad : ByteArray := prog_7_method_4_code
def yX5_sessionLoad : MethodName := ⟨RX5, "sessionLoad", "(LTrainingDiary$Session;)I"⟩
abbrev cX5_fillSessionLoads : ByteArray := prog_7_method_5_code
def yX5_fillSessionLoads : MethodName := ⟨RX5, "fillSessionLoads", "([I)V"⟩
abbrev cX5_countChangedLoads : ByteArray := prog_7_method_6_code
def yX5_countChangedLoads : MethodName := ⟨RX5, "countChangedLoads", "([I)I"⟩
abbrev cX5_fillDayLoads : ByteArray := prog_7_method_7_code
def yX5_fillDayLoads : MethodName := ⟨RX5, "fillDayLoads", "([I)V"⟩
def RX6 : String := "TrainingDiary$Tests"
def TX6 : u_T := fun k => match k with
  | 0 => ("TrainingDiary$Tests", "days", "[I", true)
  | 1 => ("TrainingDiary$Tests", "thresholds", "[I", true)
  | _ => ("TrainingDiary$Tests", "count", "I", false)
def tyX6 : Nat → FieldType := fun k => match k with
  | 0 => .array .int
  | 1 => .array .int
  | _ => .int
abbrev wsX60 : List Cond := u_ws RX6 TX6 3
theorem nmX6 : ∀ a, a < 3 → ∀ b, b < 3 → a ≠ b → (TX6 a).2.1 ≠ (TX6 b).2.1 := by decide +kernel
theorem tyX6_ok : ∀ k, k < 3 → parseFieldDescriptor (TX6 k).2.2.1 = some (tyX6 k) := by decide +kernel
abbrev cX6_init : ByteArray := prog_8_method_1_code
def yX6_init : MethodName := ⟨RX6, "<init>", "()V"⟩
abbrev cX6_copyFrom : ByteArray := prog_8_method_2_code
def yX6_copyFrom : MethodName := ⟨RX6, "copyFrom", "(LTrainingDiary$Tests;)V"⟩
abbrev cX6_positionOn : ByteArray := prog_8_method_3_code
def yX6_positionOn : MethodName := ⟨RX6, "positionOn", "(I)I"⟩
abbrev cX6_thresholdInForce : ByteArray := prog_8_method_4_code
def yX6_thresholdInForce : MethodName := ⟨RX6, "thresholdInForce", "(I)I"⟩
abbrev cX6_append : ByteArray := prog_8_method_5_code
def yX6_append : MethodName := ⟨RX6, "append", "(II)V"⟩
abbrev cX6_removeAt : ByteArray := prog_8_method_6_code
def yX6_removeAt : MethodName := ⟨RX6, "removeAt", "(I)V"⟩
def RX7 : String := "TrainingDiary$Trend"
def TX7 : u_T := fun k => match k with
  | 0 => ("TrainingDiary$Trend", "fitness", "[I", true)
  | 1 => ("TrainingDiary$Trend", "fatigue", "[I", true)
  | _ => ("TrainingDiary$Trend", "knownDays", "I", false)
def tyX7 : Nat → FieldType := fun k => match k with
  | 0 => .array .int
  | 1 => .array .int
  | _ => .int
abbrev wsX70 : List Cond := u_ws RX7 TX7 3
theorem nmX7 : ∀ a, a < 3 → ∀ b, b < 3 → a ≠ b → (TX7 a).2.1 ≠ (TX7 b).2.1 := by decide +kernel
theorem tyX7_ok : ∀ k, k < 3 → parseFieldDescriptor (TX7 k).2.2.1 = some (tyX7 k) := by decide +kernel
abbrev cX7_init : ByteArray := prog_9_method_1_code
def yX7_init : MethodName := ⟨RX7, "<init>", "()V"⟩
abbrev cX7_forgetFrom : ByteArray := prog_9_method_2_code
def yX7_forgetFrom : MethodName := ⟨RX7, "forgetFrom", "(I)V"⟩
abbrev cX7_fitnessBefore : ByteArray := prog_9_method_3_code
def yX7_fitnessBefore : MethodName := ⟨RX7, "fitnessBefore", "(I)I"⟩
abbrev cX7_fatigueBefore : ByteArray := prog_9_method_4_code
def yX7_fatigueBefore : MethodName := ⟨RX7, "fatigueBefore", "(I)I"⟩
def RX8 : String := "TrainingDiary$Zones"
def TX8 : u_T := fun k => match k with
  | 0 => ("TrainingDiary$Zones", "bounds", "[I", true)
  | _ => ("TrainingDiary$Zones", "weights", "[I", true)
def tyX8 : Nat → FieldType := fun k => match k with
  | 0 => .array .int
  | _ => .array .int
abbrev wsX80 : List Cond := u_ws RX8 TX8 2
theorem nmX8 : ∀ a, a < 2 → ∀ b, b < 2 → a ≠ b → (TX8 a).2.1 ≠ (TX8 b).2.1 := by decide +kernel
theorem tyX8_ok : ∀ k, k < 2 → parseFieldDescriptor (TX8 k).2.2.1 = some (tyX8 k) := by decide +kernel
abbrev cX8_init : ByteArray := prog_10_method_1_code
def yX8_init : MethodName := ⟨RX8, "<init>", "()V"⟩
abbrev cX8_copyFrom : ByteArray := prog_10_method_2_code
def yX8_copyFrom : MethodName := ⟨RX8, "copyFrom", "(LTrainingDiary$Zones;)V"⟩
abbrev cX8_boundsWouldIncrease : ByteArray := prog_10_method_3_code
def yX8_boundsWouldIncrease : MethodName := ⟨RX8, "boundsWouldIncrease", "(II)Z"⟩
abbrev cX8_zoneFor : ByteArray := prog_10_method_4_code
def yX8_zoneFor : MethodName := ⟨RX8, "zoneFor", "(II)I"⟩
def RX9 : String := "TrainingDiary"
def TX9 : u_T := fun k => match k with
  | 0 => ("TrainingDiary", "state", "LTrainingDiary$State;", true)
  | 1 => ("TrainingDiary", "history", "LTrainingDiary$History;", true)
  | 2 => ("TrainingDiary", "snapshot", "LTrainingDiary$State;", true)
  | 3 => ("TrainingDiary", "hasSnapshot", "Z", false)
  | 4 => ("TrainingDiary", "line", "[C", true)
  | 5 => ("TrainingDiary", "lineLength", "I", false)
  | 6 => ("TrainingDiary", "trend", "LTrainingDiary$Trend;", true)
  | 7 => ("TrainingDiary", "course", "LTrainingDiary$Course;", true)
  | 8 => ("TrainingDiary", "dayLoads", "[I", true)
  | 9 => ("TrainingDiary", "sessionLoads", "[I", true)
  | 10 => ("TrainingDiary", "zoneMinutes", "[I", true)
  | _ => ("TrainingDiary", "minuteRow", "[I", true)
def tyX9 : Nat → FieldType := fun k => match k with
  | 0 => .object "TrainingDiary$State"
  | 1 => .object "TrainingDiary$History"
  | 2 => .object "TrainingDiary$State"
  | 3 => .boolean
  | 4 => .array .char
  | 5 => .int
  | 6 => .object "TrainingDiary$Trend"
  | 7 => .object "TrainingDiary$Course"
  | 8 => .array .int
  | 9 => .array .int
  | 10 => .array .int
  | _ => .array .int
abbrev wsX90 : List Cond := u_ws RX9 TX9 12
theorem nmX9 : ∀ a, a < 12 → ∀ b, b < 12 → a ≠ b → (TX9 a).2.1 ≠ (TX9 b).2.1 := by decide +kernel
theorem tyX9_ok : ∀ k, k < 12 → parseFieldDescriptor (TX9 k).2.2.1 = some (tyX9 k) := by decide +kernel
abbrev cX9_init : ByteArray := prog_1_method_1_code
def yX9_init : MethodName := ⟨RX9, "<init>", "()V"⟩
abbrev cX9_pass : ByteArray := prog_1_method_2_code
def yX9_pass : MethodName := ⟨RX9, "pass", "(I)I"⟩
abbrev cX9_today : ByteArray := prog_1_method_3_code
def yX9_today : MethodName := ⟨RX9, "today", "()I"⟩
abbrev cX9_addTest : ByteArray := prog_1_method_4_code
def yX9_addTest : MethodName := ⟨RX9, "addTest", "(II)I"⟩
abbrev cX9_removeTest : ByteArray := prog_1_method_5_code
def yX9_removeTest : MethodName := ⟨RX9, "removeTest", "(I)I"⟩
abbrev cX9_testCount : ByteArray := prog_1_method_6_code
def yX9_testCount : MethodName := ⟨RX9, "testCount", "()I"⟩
abbrev cX9_thresholdOn : ByteArray := prog_1_method_7_code
def yX9_thresholdOn : MethodName := ⟨RX9, "thresholdOn", "(I)I"⟩
abbrev cX9_setBound : ByteArray := prog_1_method_8_code
def yX9_setBound : MethodName := ⟨RX9, "setBound", "(II)I"⟩
abbrev cX9_boundOf : ByteArray := prog_1_method_9_code
def yX9_boundOf : MethodName := ⟨RX9, "boundOf", "(I)I"⟩
abbrev cX9_setWeight : ByteArray := prog_1_method_10_code
def yX9_setWeight : MethodName := ⟨RX9, "setWeight", "(II)I"⟩
abbrev cX9_weightOf : ByteArray := prog_1_method_11_code
def yX9_weightOf : MethodName := ⟨RX9, "weightOf", "(I)I"⟩
abbrev cX9_zoneOf : ByteArray := prog_1_method_12_code
def yX9_zoneOf : MethodName := ⟨RX9, "zoneOf", "(II)I"⟩
abbrev cX9_addSession : ByteArray := prog_1_method_13_code
def yX9_addSession : MethodName := ⟨RX9, "addSession", "(I)I"⟩
abbrev cX9_addPart : ByteArray := prog_1_method_14_code
def yX9_addPart : MethodName := ⟨RX9, "addPart", "(III)I"⟩
abbrev cX9_clearParts : ByteArray := prog_1_method_15_code
def yX9_clearParts : MethodName := ⟨RX9, "clearParts", "(I)I"⟩
abbrev cX9_moveSession : ByteArray := prog_1_method_16_code
def yX9_moveSession : MethodName := ⟨RX9, "moveSession", "(II)I"⟩
abbrev cX9_removeSession : ByteArray := prog_1_method_17_code
def yX9_removeSession : MethodName := ⟨RX9, "removeSession", "(I)I"⟩
abbrev cX9_sessionCount : ByteArray := prog_1_method_18_code
def yX9_sessionCount : MethodName := ⟨RX9, "sessionCount", "()I"⟩
abbrev cX9_sessionAt : ByteArray := prog_1_method_19_code
def yX9_sessionAt : MethodName := ⟨RX9, "sessionAt", "(I)I"⟩
abbrev cX9_dayOf : ByteArray := prog_1_method_20_code
def yX9_dayOf : MethodName := ⟨RX9, "dayOf", "(I)I"⟩
abbrev cX9_minutesOf : ByteArray := prog_1_method_21_code
def yX9_minutesOf : MethodName := ⟨RX9, "minutesOf", "(I)I"⟩
abbrev cX9_minutesInZone : ByteArray := prog_1_method_22_code
def yX9_minutesInZone : MethodName := ⟨RX9, "minutesInZone", "(II)I"⟩
abbrev cX9_loadOf : ByteArray := prog_1_method_23_code
def yX9_loadOf : MethodName := ⟨RX9, "loadOf", "(I)I"⟩
abbrev cX9_loadOn : ByteArray := prog_1_method_24_code
def yX9_loadOn : MethodName := ⟨RX9, "loadOn", "(I)I"⟩
abbrev cX9_zoneShare : ByteArray := prog_1_method_25_code
def yX9_zoneShare : MethodName := ⟨RX9, "zoneShare", "(I)F"⟩
abbrev cX9_meanLoad : ByteArray := prog_1_method_26_code
def yX9_meanLoad : MethodName := ⟨RX9, "meanLoad", "()D"⟩
abbrev cX9_fitnessOn : ByteArray := prog_1_method_27_code
def yX9_fitnessOn : MethodName := ⟨RX9, "fitnessOn", "(I)I"⟩
abbrev cX9_fitnessFromStart : ByteArray := prog_1_method_28_code
def yX9_fitnessFromStart : MethodName := ⟨RX9, "fitnessFromStart", "(I)I"⟩
abbrev cX9_fatigueOn : ByteArray := prog_1_method_29_code
def yX9_fatigueOn : MethodName := ⟨RX9, "fatigueOn", "(I)I"⟩
abbrev cX9_fatigueFromStart : ByteArray := prog_1_method_30_code
def yX9_fatigueFromStart : MethodName := ⟨RX9, "fatigueFromStart", "(I)I"⟩
abbrev cX9_formOn : ByteArray := prog_1_method_31_code
def yX9_formOn : MethodName := ⟨RX9, "formOn", "(I)I"⟩
abbrev cX9_bestFormDay : ByteArray := prog_1_method_32_code
def yX9_bestFormDay : MethodName := ⟨RX9, "bestFormDay", "()I"⟩
abbrev cX9_daysToForm : ByteArray := prog_1_method_33_code
def yX9_daysToForm : MethodName := ⟨RX9, "daysToForm", "(I)I"⟩
abbrev cX9_bestDays : ByteArray := prog_1_method_34_code
def yX9_bestDays : MethodName := ⟨RX9, "bestDays", "(I)I"⟩
abbrev cX9_bestDaysByTrying : ByteArray := prog_1_method_35_code
def yX9_bestDaysByTrying : MethodName := ⟨RX9, "bestDaysByTrying", "(I)I"⟩
abbrev cX9_bestDaysStart : ByteArray := prog_1_method_36_code
def yX9_bestDaysStart : MethodName := ⟨RX9, "bestDaysStart", "(I)I"⟩
abbrev cX9_bestEffort : ByteArray := prog_1_method_37_code
def yX9_bestEffort : MethodName := ⟨RX9, "bestEffort", "(I)I"⟩
abbrev cX9_bestEffortByTrying : ByteArray := prog_1_method_38_code
def yX9_bestEffortByTrying : MethodName := ⟨RX9, "bestEffortByTrying", "(I)I"⟩
abbrev cX9_bestEffortSession : ByteArray := prog_1_method_39_code
def yX9_bestEffortSession : MethodName := ⟨RX9, "bestEffortSession", "(I)I"⟩
abbrev cX9_startPlan : ByteArray := prog_1_method_40_code
def yX9_startPlan : MethodName := ⟨RX9, "startPlan", "()I"⟩
abbrev cX9_addTarget : ByteArray := prog_1_method_41_code
def yX9_addTarget : MethodName := ⟨RX9, "addTarget", "(I)I"⟩
abbrev cX9_targetAt : ByteArray := prog_1_method_42_code
def yX9_targetAt : MethodName := ⟨RX9, "targetAt", "(I)I"⟩
abbrev cX9_dueEntry : ByteArray := prog_1_method_43_code
def yX9_dueEntry : MethodName := ⟨RX9, "dueEntry", "()I"⟩
abbrev cX9_missedDays : ByteArray := prog_1_method_44_code
def yX9_missedDays : MethodName := ⟨RX9, "missedDays", "()I"⟩
abbrev cX9_droppedEntries : ByteArray := prog_1_method_45_code
def yX9_droppedEntries : MethodName := ⟨RX9, "droppedEntries", "()I"⟩
abbrev cX9_planEnd : ByteArray := prog_1_method_46_code
def yX9_planEnd : MethodName := ⟨RX9, "planEnd", "()I"⟩
abbrev cX9_isPlanOver : ByteArray := prog_1_method_47_code
def yX9_isPlanOver : MethodName := ⟨RX9, "isPlanOver", "()Z"⟩
abbrev cX9_writeWeek : ByteArray := prog_1_method_48_code
def yX9_writeWeek : MethodName := ⟨RX9, "writeWeek", "(I)I"⟩
abbrev cX9_lineAt : ByteArray := prog_1_method_49_code
def yX9_lineAt : MethodName := ⟨RX9, "lineAt", "(I)C"⟩
abbrev cX9_undo : ByteArray := prog_1_method_50_code
def yX9_undo : MethodName := ⟨RX9, "undo", "()I"⟩
abbrev cX9_save : ByteArray := prog_1_method_51_code
def yX9_save : MethodName := ⟨RX9, "save", "()I"⟩
abbrev cX9_restore : ByteArray := prog_1_method_52_code
def yX9_restore : MethodName := ⟨RX9, "restore", "()I"⟩
abbrev cX9_requireRange : ByteArray := prog_1_method_53_code
def yX9_requireRange : MethodName := ⟨RX9, "requireRange", "(III)V"⟩
abbrev cX9_requireZone : ByteArray := prog_1_method_54_code
def yX9_requireZone : MethodName := ⟨RX9, "requireZone", "(I)V"⟩
abbrev cX9_requireDayUpToToday : ByteArray := prog_1_method_55_code
def yX9_requireDayUpToToday : MethodName := ⟨RX9, "requireDayUpToToday", "(I)V"⟩
abbrev cX9_requireRowOfDays : ByteArray := prog_1_method_56_code
def yX9_requireRowOfDays : MethodName := ⟨RX9, "requireRowOfDays", "(I)V"⟩
abbrev cX9_requireRowOfMinutes : ByteArray := prog_1_method_57_code
def yX9_requireRowOfMinutes : MethodName := ⟨RX9, "requireRowOfMinutes", "(I)V"⟩
abbrev cX9_existingPosition : ByteArray := prog_1_method_58_code
def yX9_existingPosition : MethodName := ⟨RX9, "existingPosition", "(I)I"⟩
abbrev cX9_existingSession : ByteArray := prog_1_method_59_code
def yX9_existingSession : MethodName := ⟨RX9, "existingSession", "(I)LTrainingDiary$Session;"⟩
abbrev cX9_clear : ByteArray := prog_1_method_60_code
def yX9_clear : MethodName := ⟨RX9, "clear", "([I)V"⟩
abbrev cX9_sumOfLoads : ByteArray := prog_1_method_61_code
def yX9_sumOfLoads : MethodName := ⟨RX9, "sumOfLoads", "(II)I"⟩
abbrev cX9_nextFitness : ByteArray := prog_1_method_62_code
def yX9_nextFitness : MethodName := ⟨RX9, "nextFitness", "(II)I"⟩
abbrev cX9_nextFatigue : ByteArray := prog_1_method_63_code
def yX9_nextFatigue : MethodName := ⟨RX9, "nextFatigue", "(II)I"⟩
abbrev cX9_learnTrend : ByteArray := prog_1_method_64_code
def yX9_learnTrend : MethodName := ⟨RX9, "learnTrend", "(I)V"⟩
abbrev cX9_startOfBestDays : ByteArray := prog_1_method_65_code
def yX9_startOfBestDays : MethodName := ⟨RX9, "startOfBestDays", "(I)I"⟩
abbrev cX9_positionOfBestEffort : ByteArray := prog_1_method_66_code
def yX9_positionOfBestEffort : MethodName := ⟨RX9, "positionOfBestEffort", "(I)I"⟩
abbrev cX9_effortBySums : ByteArray := prog_1_method_67_code
def yX9_effortBySums : MethodName := ⟨RX9, "effortBySums", "(LTrainingDiary$Session;I)I"⟩
abbrev cX9_effortByTrying : ByteArray := prog_1_method_68_code
def yX9_effortByTrying : MethodName := ⟨RX9, "effortByTrying", "(LTrainingDiary$Session;I)I"⟩
abbrev cX9_followPlan : ByteArray := prog_1_method_69_code
def yX9_followPlan : MethodName := ⟨RX9, "followPlan", "()V"⟩
abbrev cX9_existingDueEntry : ByteArray := prog_1_method_70_code
def yX9_existingDueEntry : MethodName := ⟨RX9, "existingDueEntry", "()I"⟩
abbrev cX9_signOfDay : ByteArray := prog_1_method_71_code
def yX9_signOfDay : MethodName := ⟨RX9, "signOfDay", "(I)C"⟩
def RX10 : String := "TrainingDiaryModel"
def TX10 : u_T := fun k => match k with
  | 0 => ("TrainingDiaryModel", "s", "[I", false)
  | 1 => ("TrainingDiaryModel", "old", "[[I", true)
  | 2 => ("TrainingDiaryModel", "snapshot", "[I", true)
  | 3 => ("TrainingDiaryModel", "load", "[I", true)
  | 4 => ("TrainingDiaryModel", "zones", "[I", true)
  | 5 => ("TrainingDiaryModel", "line", "[C", true)
  | 6 => ("TrainingDiaryModel", "undoable", "I", false)
  | 7 => ("TrainingDiaryModel", "top", "I", false)
  | 8 => ("TrainingDiaryModel", "written", "I", false)
  | 9 => ("TrainingDiaryModel", "due", "I", false)
  | 10 => ("TrainingDiaryModel", "missed", "I", false)
  | 11 => ("TrainingDiaryModel", "dropped", "I", false)
  | 12 => ("TrainingDiaryModel", "thrown", "I", false)
  | _ => ("TrainingDiaryModel", "isSaved", "Z", false)
def tyX10 : Nat → FieldType := fun k => match k with
  | 0 => .array .int
  | 1 => .array (.array .int)
  | 2 => .array .int
  | 3 => .array .int
  | 4 => .array .int
  | 5 => .array .char
  | 6 => .int
  | 7 => .int
  | 8 => .int
  | 9 => .int
  | 10 => .int
  | 11 => .int
  | 12 => .int
  | _ => .boolean
abbrev wsX100 : List Cond := u_ws RX10 TX10 14
theorem nmX10 : ∀ a, a < 14 → ∀ b, b < 14 → a ≠ b → (TX10 a).2.1 ≠ (TX10 b).2.1 := by decide +kernel
theorem tyX10_ok : ∀ k, k < 14 → parseFieldDescriptor (TX10 k).2.2.1 = some (tyX10 k) := by decide +kernel
abbrev cX10_init : ByteArray := prog_12_method_1_code
def yX10_init : MethodName := ⟨RX10, "<init>", "()V"⟩
abbrev cX10_thrown : ByteArray := prog_12_method_2_code
def yX10_thrown : MethodName := ⟨RX10, "thrown", "()I"⟩
abbrev cX10_isIn : ByteArray := prog_12_method_3_code
def yX10_isIn : MethodName := ⟨RX10, "isIn", "(III)Z"⟩
abbrev cX10_isThrown : ByteArray := prog_12_method_4_code
def yX10_isThrown : MethodName := ⟨RX10, "isThrown", "(ZI)Z"⟩
abbrev cX10_keeps : ByteArray := prog_12_method_5_code
def yX10_keeps : MethodName := ⟨RX10, "keeps", "()V"⟩
abbrev cX10_isNoDay : ByteArray := prog_12_method_6_code
def yX10_isNoDay : MethodName := ⟨RX10, "isNoDay", "(I)Z"⟩
abbrev cX10_pass : ByteArray := prog_12_method_7_code
def yX10_pass : MethodName := ⟨RX10, "pass", "(I)I"⟩
abbrev cX10_today : ByteArray := prog_12_method_8_code
def yX10_today : MethodName := ⟨RX10, "today", "()I"⟩
abbrev cX10_testOn : ByteArray := prog_12_method_9_code
def yX10_testOn : MethodName := ⟨RX10, "testOn", "(I)I"⟩
abbrev cX10_addTest : ByteArray := prog_12_method_10_code
def yX10_addTest : MethodName := ⟨RX10, "addTest", "(II)I"⟩
abbrev cX10_removeTest : ByteArray := prog_12_method_11_code
def yX10_removeTest : MethodName := ⟨RX10, "removeTest", "(I)I"⟩
abbrev cX10_testCount : ByteArray := prog_12_method_12_code
def yX10_testCount : MethodName := ⟨RX10, "testCount", "()I"⟩
abbrev cX10_threshold : ByteArray := prog_12_method_13_code
def yX10_threshold : MethodName := ⟨RX10, "threshold", "(I)I"⟩
abbrev cX10_thresholdOn : ByteArray := prog_12_method_14_code
def yX10_thresholdOn : MethodName := ⟨RX10, "thresholdOn", "(I)I"⟩
abbrev cX10_setBound : ByteArray := prog_12_method_15_code
def yX10_setBound : MethodName := ⟨RX10, "setBound", "(II)I"⟩
abbrev cX10_boundOf : ByteArray := prog_12_method_16_code
def yX10_boundOf : MethodName := ⟨RX10, "boundOf", "(I)I"⟩
abbrev cX10_setWeight : ByteArray := prog_12_method_17_code
def yX10_setWeight : MethodName := ⟨RX10, "setWeight", "(II)I"⟩
abbrev cX10_weightOf : ByteArray := prog_12_method_18_code
def yX10_weightOf : MethodName := ⟨RX10, "weightOf", "(I)I"⟩
abbrev cX10_zone : ByteArray := prog_12_method_19_code
def yX10_zone : MethodName := ⟨RX10, "zone", "(II)I"⟩
abbrev cX10_zoneOf : ByteArray := prog_12_method_20_code
def yX10_zoneOf : MethodName := ⟨RX10, "zoneOf", "(II)I"⟩
abbrev cX10_at : ByteArray := prog_12_method_21_code
def yX10_at : MethodName := ⟨RX10, "at", "(I)I"⟩
abbrev cX10_place : ByteArray := prog_12_method_22_code
def yX10_place : MethodName := ⟨RX10, "place", "(I)I"⟩
abbrev cX10_minutes : ByteArray := prog_12_method_23_code
def yX10_minutes : MethodName := ⟨RX10, "minutes", "(I)I"⟩
abbrev cX10_zones : ByteArray := prog_12_method_24_code
def yX10_zones : MethodName := ⟨RX10, "zones", "(I)V"⟩
abbrev cX10_noZones : ByteArray := prog_12_method_25_code
def yX10_noZones : MethodName := ⟨RX10, "noZones", "()V"⟩
abbrev cX10_loadAt : ByteArray := prog_12_method_26_code
def yX10_loadAt : MethodName := ⟨RX10, "loadAt", "(I)I"⟩
abbrev cX10_addSession : ByteArray := prog_12_method_27_code
def yX10_addSession : MethodName := ⟨RX10, "addSession", "(I)I"⟩
abbrev cX10_addPart : ByteArray := prog_12_method_28_code
def yX10_addPart : MethodName := ⟨RX10, "addPart", "(III)I"⟩
abbrev cX10_isNoSession : ByteArray := prog_12_method_29_code
def yX10_isNoSession : MethodName := ⟨RX10, "isNoSession", "(I)Z"⟩
abbrev cX10_clearParts : ByteArray := prog_12_method_30_code
def yX10_clearParts : MethodName := ⟨RX10, "clearParts", "(I)I"⟩
abbrev cX10_moveSession : ByteArray := prog_12_method_31_code
def yX10_moveSession : MethodName := ⟨RX10, "moveSession", "(II)I"⟩
abbrev cX10_removeSession : ByteArray := prog_12_method_32_code
def yX10_removeSession : MethodName := ⟨RX10, "removeSession", "(I)I"⟩
abbrev cX10_sessionCount : ByteArray := prog_12_method_33_code
def yX10_sessionCount : MethodName := ⟨RX10, "sessionCount", "()I"⟩
abbrev cX10_ranked : ByteArray := prog_12_method_34_code
def yX10_ranked : MethodName := ⟨RX10, "ranked", "(I)I"⟩
abbrev cX10_sessionAt : ByteArray := prog_12_method_35_code
def yX10_sessionAt : MethodName := ⟨RX10, "sessionAt", "(I)I"⟩
abbrev cX10_dayOf : ByteArray := prog_12_method_36_code
def yX10_dayOf : MethodName := ⟨RX10, "dayOf", "(I)I"⟩
abbrev cX10_minutesOf : ByteArray := prog_12_method_37_code
def yX10_minutesOf : MethodName := ⟨RX10, "minutesOf", "(I)I"⟩
abbrev cX10_minutesInZone : ByteArray := prog_12_method_38_code
def yX10_minutesInZone : MethodName := ⟨RX10, "minutesInZone", "(II)I"⟩
abbrev cX10_loadOf : ByteArray := prog_12_method_39_code
def yX10_loadOf : MethodName := ⟨RX10, "loadOf", "(I)I"⟩
abbrev cX10_loads : ByteArray := prog_12_method_40_code
def yX10_loads : MethodName := ⟨RX10, "loads", "()V"⟩
abbrev cX10_loadOn : ByteArray := prog_12_method_41_code
def yX10_loadOn : MethodName := ⟨RX10, "loadOn", "(I)I"⟩
abbrev cX10_zoneShare : ByteArray := prog_12_method_42_code
def yX10_zoneShare : MethodName := ⟨RX10, "zoneShare", "(I)F"⟩
abbrev cX10_meanLoad : ByteArray := prog_12_method_43_code
def yX10_meanLoad : MethodName := ⟨RX10, "meanLoad", "()D"⟩
abbrev cX10_decayed : ByteArray := prog_12_method_44_code
def yX10_decayed : MethodName := ⟨RX10, "decayed", "(II)I"⟩
abbrev cX10_form : ByteArray := prog_12_method_45_code
def yX10_form : MethodName := ⟨RX10, "form", "(I)I"⟩
abbrev cX10_fitnessOn : ByteArray := prog_12_method_46_code
def yX10_fitnessOn : MethodName := ⟨RX10, "fitnessOn", "(I)I"⟩
abbrev cX10_fitnessFromStart : ByteArray := prog_12_method_47_code
def yX10_fitnessFromStart : MethodName := ⟨RX10, "fitnessFromStart", "(I)I"⟩
abbrev cX10_fatigueOn : ByteArray := prog_12_method_48_code
def yX10_fatigueOn : MethodName := ⟨RX10, "fatigueOn", "(I)I"⟩
abbrev cX10_fatigueFromStart : ByteArray := prog_12_method_49_code
def yX10_fatigueFromStart : MethodName := ⟨RX10, "fatigueFromStart", "(I)I"⟩
abbrev cX10_formOn : ByteArray := prog_12_method_50_code
def yX10_formOn : MethodName := ⟨RX10, "formOn", "(I)I"⟩
abbrev cX10_bestFormDay : ByteArray := prog_12_method_51_code
def yX10_bestFormDay : MethodName := ⟨RX10, "bestFormDay", "()I"⟩
abbrev cX10_daysToForm : ByteArray := prog_12_method_52_code
def yX10_daysToForm : MethodName := ⟨RX10, "daysToForm", "(I)I"⟩
abbrev cX10_row : ByteArray := prog_12_method_53_code
def yX10_row : MethodName := ⟨RX10, "row", "(II)I"⟩
abbrev cX10_isNoRow : ByteArray := prog_12_method_54_code
def yX10_isNoRow : MethodName := ⟨RX10, "isNoRow", "(I)Z"⟩
abbrev cX10_bestRow : ByteArray := prog_12_method_55_code
def yX10_bestRow : MethodName := ⟨RX10, "bestRow", "(I)I"⟩
abbrev cX10_bestDays : ByteArray := prog_12_method_56_code
def yX10_bestDays : MethodName := ⟨RX10, "bestDays", "(I)I"⟩
abbrev cX10_bestDaysByTrying : ByteArray := prog_12_method_57_code
def yX10_bestDaysByTrying : MethodName := ⟨RX10, "bestDaysByTrying", "(I)I"⟩
abbrev cX10_bestDaysStart : ByteArray := prog_12_method_58_code
def yX10_bestDaysStart : MethodName := ⟨RX10, "bestDaysStart", "(I)I"⟩
abbrev cX10_intensity : ByteArray := prog_12_method_59_code
def yX10_intensity : MethodName := ⟨RX10, "intensity", "(II)I"⟩
abbrev cX10_effort : ByteArray := prog_12_method_60_code
def yX10_effort : MethodName := ⟨RX10, "effort", "(II)I"⟩
abbrev cX10_strongest : ByteArray := prog_12_method_61_code
def yX10_strongest : MethodName := ⟨RX10, "strongest", "(I)I"⟩
abbrev cX10_isNoEffort : ByteArray := prog_12_method_62_code
def yX10_isNoEffort : MethodName := ⟨RX10, "isNoEffort", "(I)Z"⟩
abbrev cX10_bestEffort : ByteArray := prog_12_method_63_code
def yX10_bestEffort : MethodName := ⟨RX10, "bestEffort", "(I)I"⟩
abbrev cX10_bestEffortByTrying : ByteArray := prog_12_method_64_code
def yX10_bestEffortByTrying : MethodName := ⟨RX10, "bestEffortByTrying", "(I)I"⟩
abbrev cX10_bestEffortSession : ByteArray := prog_12_method_65_code
def yX10_bestEffortSession : MethodName := ⟨RX10, "bestEffortSession", "(I)I"⟩
abbrev cX10_startPlan : ByteArray := prog_12_method_66_code
def yX10_startPlan : MethodName := ⟨RX10, "startPlan", "()I"⟩
abbrev cX10_addTarget : ByteArray := prog_12_method_67_code
def yX10_addTarget : MethodName := ⟨RX10, "addTarget", "(I)I"⟩
abbrev cX10_targetAt : ByteArray := prog_12_method_68_code
def yX10_targetAt : MethodName := ⟨RX10, "targetAt", "(I)I"⟩
abbrev cX10_goes : ByteArray := prog_12_method_69_code
def yX10_goes : MethodName := ⟨RX10, "goes", "()Z"⟩
abbrev cX10_dueEntry : ByteArray := prog_12_method_70_code
def yX10_dueEntry : MethodName := ⟨RX10, "dueEntry", "()I"⟩
abbrev cX10_missedDays : ByteArray := prog_12_method_71_code
def yX10_missedDays : MethodName := ⟨RX10, "missedDays", "()I"⟩
abbrev cX10_droppedEntries : ByteArray := prog_12_method_72_code
def yX10_droppedEntries : MethodName := ⟨RX10, "droppedEntries", "()I"⟩
abbrev cX10_planEnd : ByteArray := prog_12_method_73_code
def yX10_planEnd : MethodName := ⟨RX10, "planEnd", "()I"⟩
abbrev cX10_isPlanOver : ByteArray := prog_12_method_74_code
def yX10_isPlanOver : MethodName := ⟨RX10, "isPlanOver", "()Z"⟩
abbrev cX10_told : ByteArray := prog_12_method_75_code
def yX10_told : MethodName := ⟨RX10, "told", "(I)C"⟩
abbrev cX10_writeWeek : ByteArray := prog_12_method_76_code
def yX10_writeWeek : MethodName := ⟨RX10, "writeWeek", "(I)I"⟩
abbrev cX10_lineAt : ByteArray := prog_12_method_77_code
def yX10_lineAt : MethodName := ⟨RX10, "lineAt", "(I)C"⟩
abbrev cX10_undo : ByteArray := prog_12_method_78_code
def yX10_undo : MethodName := ⟨RX10, "undo", "()I"⟩
abbrev cX10_save : ByteArray := prog_12_method_79_code
def yX10_save : MethodName := ⟨RX10, "save", "()I"⟩
abbrev cX10_restore : ByteArray := prog_12_method_80_code
def yX10_restore : MethodName := ⟨RX10, "restore", "()I"⟩
def RJx145de : String := "java/io/Serializable"
def TJx145de : u_T := fun k => match k with
  | _ => ("", "", "", false)
def tyJx145de : Nat → FieldType := fun k => match k with
  | _ => .int
abbrev wsJx145de0 : List Cond := u_ws RJx145de TJx145de 0
theorem nmJx145de : ∀ a, a < 0 → ∀ b, b < 0 → a ≠ b → (TJx145de a).2.1 ≠ (TJx145de b).2.1 := by decide +kernel
theorem tyJx145de_ok : ∀ k, k < 0 → parseFieldDescriptor (TJx145de k).2.2.1 = some (tyJx145de k) := by decide +kernel
def RJx00060 : String := "java/lang/ArrayIndexOutOfBoundsException"
def TJx00060 : u_T := fun k => match k with
  | 0 => ("java/lang/Throwable", "backtrace", "Ljava/lang/Object;", false)
  | 1 => ("java/lang/Throwable", "detailMessage", "Ljava/lang/String;", false)
  | 2 => ("java/lang/Throwable", "cause", "Ljava/lang/Throwable;", false)
  | 3 => ("java/lang/Throwable", "stackTrace", "[Ljava/lang/StackTraceElement;", false)
  | 4 => ("java/lang/Throwable", "depth", "I", false)
  | _ => ("java/lang/Throwable", "suppressedExceptions", "Ljava/util/List;", false)
def tyJx00060 : Nat → FieldType := fun k => match k with
  | 0 => .object "java/lang/Object"
  | 1 => .object "java/lang/String"
  | 2 => .object "java/lang/Throwable"
  | 3 => .array (.object "java/lang/StackTraceElement")
  | 4 => .int
  | _ => .object "java/util/List"
abbrev wsJx000600 : List Cond := u_ws RJx00060 TJx00060 6
theorem nmJx00060 : ∀ a, a < 6 → ∀ b, b < 6 → a ≠ b → (TJx00060 a).2.1 ≠ (TJx00060 b).2.1 := by decide +kernel
theorem tyJx00060_ok : ∀ k, k < 6 → parseFieldDescriptor (TJx00060 k).2.2.1 = some (tyJx00060 k) := by decide +kernel
abbrev cJx00060_init_a7421 : ByteArray := prog_15_method_2_code
def yJx00060_init_a7421 : MethodName := ⟨RJx00060, "<init>", "(Ljava/lang/String;)V"⟩
def RJx8e188 : String := "java/lang/Cloneable"
def TJx8e188 : u_T := fun k => match k with
  | _ => ("", "", "", false)
def tyJx8e188 : Nat → FieldType := fun k => match k with
  | _ => .int
abbrev wsJx8e1880 : List Cond := u_ws RJx8e188 TJx8e188 0
theorem nmJx8e188 : ∀ a, a < 0 → ∀ b, b < 0 → a ≠ b → (TJx8e188 a).2.1 ≠ (TJx8e188 b).2.1 := by decide +kernel
theorem tyJx8e188_ok : ∀ k, k < 0 → parseFieldDescriptor (TJx8e188 k).2.2.1 = some (tyJx8e188 k) := by decide +kernel
def RJ9 : String := "java/lang/Math"
def TJ9 : u_T := fun k => match k with
  | _ => ("", "", "", false)
def tyJ9 : Nat → FieldType := fun k => match k with
  | _ => .int
abbrev wsJ90 : List Cond := u_ws RJ9 TJ9 0
theorem nmJ9 : ∀ a, a < 0 → ∀ b, b < 0 → a ≠ b → (TJ9 a).2.1 ≠ (TJ9 b).2.1 := by decide +kernel
theorem tyJ9_ok : ∀ k, k < 0 → parseFieldDescriptor (TJ9 k).2.2.1 = some (tyJ9 k) := by decide +kernel
abbrev cJ9_max_7cf53 : ByteArray := prog_21_method_65_code
def yJ9_max_7cf53 : MethodName := ⟨RJ9, "max", "(II)I"⟩
abbrev cJ9_min_7cf53 : ByteArray := prog_21_method_69_code
def yJ9_min_7cf53 : MethodName := ⟨RJ9, "min", "(II)I"⟩
def RJ0 : String := "java/lang/String"
def TJ0 : u_T := fun k => match k with
  | 0 => ("java/lang/String", "value", "[B", true)
  | _ => ("java/lang/String", "coder", "B", true)
def tyJ0 : Nat → FieldType := fun k => match k with
  | 0 => .array .byte
  | _ => .byte
abbrev wsJ00 : List Cond := u_ws RJ0 TJ0 2
theorem nmJ0 : ∀ a, a < 2 → ∀ b, b < 2 → a ≠ b → (TJ0 a).2.1 ≠ (TJ0 b).2.1 := by decide +kernel
theorem tyJ0_ok : ∀ k, k < 2 → parseFieldDescriptor (TJ0 k).2.2.1 = some (tyJ0 k) := by decide +kernel
def RJ10 : String := "java/lang/System"
def TJ10 : u_T := fun k => match k with
  | _ => ("", "", "", false)
def tyJ10 : Nat → FieldType := fun k => match k with
  | _ => .int
abbrev wsJ100 : List Cond := u_ws RJ10 TJ10 0
theorem nmJ10 : ∀ a, a < 0 → ∀ b, b < 0 → a ≠ b → (TJ10 a).2.1 ≠ (TJ10 b).2.1 := by decide +kernel
theorem tyJ10_ok : ∀ k, k < 0 → parseFieldDescriptor (TJ10 k).2.2.1 = some (tyJ10 k) := by decide +kernel
def RL : String := "TrainingDiaryLaw"
abbrev cL_pass : ByteArray := method_3_code
def yL_pass : MethodName := ⟨RL, "pass", "(LTrainingDiary;I[J)I"⟩
abbrev cL_addTest : ByteArray := method_4_code
def yL_addTest : MethodName := ⟨RL, "addTest", "(LTrainingDiary;II[J)I"⟩
abbrev cL_removeTest : ByteArray := method_5_code
def yL_removeTest : MethodName := ⟨RL, "removeTest", "(LTrainingDiary;I[J)I"⟩
abbrev cL_thresholdOn : ByteArray := method_6_code
def yL_thresholdOn : MethodName := ⟨RL, "thresholdOn", "(LTrainingDiary;I[J)I"⟩
abbrev cL_setBound : ByteArray := method_7_code
def yL_setBound : MethodName := ⟨RL, "setBound", "(LTrainingDiary;II[J)I"⟩
abbrev cL_boundOf : ByteArray := method_8_code
def yL_boundOf : MethodName := ⟨RL, "boundOf", "(LTrainingDiary;I[J)I"⟩
abbrev cL_setWeight : ByteArray := method_9_code
def yL_setWeight : MethodName := ⟨RL, "setWeight", "(LTrainingDiary;II[J)I"⟩
abbrev cL_weightOf : ByteArray := method_10_code
def yL_weightOf : MethodName := ⟨RL, "weightOf", "(LTrainingDiary;I[J)I"⟩
abbrev cL_zoneOf : ByteArray := method_11_code
def yL_zoneOf : MethodName := ⟨RL, "zoneOf", "(LTrainingDiary;II[J)I"⟩
abbrev cL_addSession : ByteArray := method_12_code
def yL_addSession : MethodName := ⟨RL, "addSession", "(LTrainingDiary;I[J)I"⟩
abbrev cL_addPart : ByteArray := method_13_code
def yL_addPart : MethodName := ⟨RL, "addPart", "(LTrainingDiary;III[J)I"⟩
abbrev cL_clearParts : ByteArray := method_14_code
def yL_clearParts : MethodName := ⟨RL, "clearParts", "(LTrainingDiary;I[J)I"⟩
abbrev cL_moveSession : ByteArray := method_15_code
def yL_moveSession : MethodName := ⟨RL, "moveSession", "(LTrainingDiary;II[J)I"⟩
abbrev cL_removeSession : ByteArray := method_16_code
def yL_removeSession : MethodName := ⟨RL, "removeSession", "(LTrainingDiary;I[J)I"⟩
abbrev cL_sessionAt : ByteArray := method_17_code
def yL_sessionAt : MethodName := ⟨RL, "sessionAt", "(LTrainingDiary;I[J)I"⟩
abbrev cL_dayOf : ByteArray := method_18_code
def yL_dayOf : MethodName := ⟨RL, "dayOf", "(LTrainingDiary;I[J)I"⟩
abbrev cL_minutesOf : ByteArray := method_19_code
def yL_minutesOf : MethodName := ⟨RL, "minutesOf", "(LTrainingDiary;I[J)I"⟩
abbrev cL_minutesInZone : ByteArray := method_20_code
def yL_minutesInZone : MethodName := ⟨RL, "minutesInZone", "(LTrainingDiary;II[J)I"⟩
abbrev cL_loadOf : ByteArray := method_21_code
def yL_loadOf : MethodName := ⟨RL, "loadOf", "(LTrainingDiary;I[J)I"⟩
abbrev cL_loadOn : ByteArray := method_22_code
def yL_loadOn : MethodName := ⟨RL, "loadOn", "(LTrainingDiary;I[J)I"⟩
abbrev cL_zoneShare : ByteArray := method_23_code
def yL_zoneShare : MethodName := ⟨RL, "zoneShare", "(LTrainingDiary;I[D)I"⟩
abbrev cL_fitnessOn : ByteArray := method_24_code
def yL_fitnessOn : MethodName := ⟨RL, "fitnessOn", "(LTrainingDiary;I[J)I"⟩
abbrev cL_fitnessFromStart : ByteArray := method_25_code
def yL_fitnessFromStart : MethodName := ⟨RL, "fitnessFromStart", "(LTrainingDiary;I[J)I"⟩
abbrev cL_fatigueOn : ByteArray := method_26_code
def yL_fatigueOn : MethodName := ⟨RL, "fatigueOn", "(LTrainingDiary;I[J)I"⟩
abbrev cL_fatigueFromStart : ByteArray := method_27_code
def yL_fatigueFromStart : MethodName := ⟨RL, "fatigueFromStart", "(LTrainingDiary;I[J)I"⟩
abbrev cL_formOn : ByteArray := method_28_code
def yL_formOn : MethodName := ⟨RL, "formOn", "(LTrainingDiary;I[J)I"⟩
abbrev cL_daysToForm : ByteArray := method_29_code
def yL_daysToForm : MethodName := ⟨RL, "daysToForm", "(LTrainingDiary;I[J)I"⟩
abbrev cL_bestDays : ByteArray := method_30_code
def yL_bestDays : MethodName := ⟨RL, "bestDays", "(LTrainingDiary;I[J)I"⟩
abbrev cL_bestDaysByTrying : ByteArray := method_31_code
def yL_bestDaysByTrying : MethodName := ⟨RL, "bestDaysByTrying", "(LTrainingDiary;I[J)I"⟩
abbrev cL_bestDaysStart : ByteArray := method_32_code
def yL_bestDaysStart : MethodName := ⟨RL, "bestDaysStart", "(LTrainingDiary;I[J)I"⟩
abbrev cL_bestEffort : ByteArray := method_33_code
def yL_bestEffort : MethodName := ⟨RL, "bestEffort", "(LTrainingDiary;I[J)I"⟩
abbrev cL_bestEffortByTrying : ByteArray := method_34_code
def yL_bestEffortByTrying : MethodName := ⟨RL, "bestEffortByTrying", "(LTrainingDiary;I[J)I"⟩
abbrev cL_bestEffortSession : ByteArray := method_35_code
def yL_bestEffortSession : MethodName := ⟨RL, "bestEffortSession", "(LTrainingDiary;I[J)I"⟩
abbrev cL_addTarget : ByteArray := method_36_code
def yL_addTarget : MethodName := ⟨RL, "addTarget", "(LTrainingDiary;I[J)I"⟩
abbrev cL_targetAt : ByteArray := method_37_code
def yL_targetAt : MethodName := ⟨RL, "targetAt", "(LTrainingDiary;I[J)I"⟩
abbrev cL_dueEntry : ByteArray := method_38_code
def yL_dueEntry : MethodName := ⟨RL, "dueEntry", "(LTrainingDiary;[J)I"⟩
abbrev cL_planEnd : ByteArray := method_39_code
def yL_planEnd : MethodName := ⟨RL, "planEnd", "(LTrainingDiary;[J)I"⟩
abbrev cL_writeWeek : ByteArray := method_40_code
def yL_writeWeek : MethodName := ⟨RL, "writeWeek", "(LTrainingDiary;I[J)I"⟩
abbrev cL_lineAt : ByteArray := method_41_code
def yL_lineAt : MethodName := ⟨RL, "lineAt", "(LTrainingDiary;I[J)I"⟩
abbrev cL_undo : ByteArray := method_42_code
def yL_undo : MethodName := ⟨RL, "undo", "(LTrainingDiary;[J)I"⟩
abbrev cL_restore : ByteArray := method_43_code
def yL_restore : MethodName := ⟨RL, "restore", "(LTrainingDiary;[J)I"⟩
abbrev cL_law : ByteArray := code
def yL_law : MethodName := ⟨RL, "law", "([I)Z"⟩
abbrev vwCl : List vw_C := [(RJ0, TJ0, 2), (RJx00060, TJx00060, 6), (RX0, TX0, 3), (RX1, TX1, 3), (RX2, TX2, 4), (RX3, TX3, 5), (RX4, TX4, 3), (RX5, TX5, 5), (RX6, TX6, 3), (RX7, TX7, 3), (RX8, TX8, 2), (RX9, TX9, 12), (RX10, TX10, 14)]
end
section
theorem dX0_init_0 : decode cX0_init 0 = .ok (.aload_n 0, 1) := by decide +kernel
theorem dX0_init_1 : decode cX0_init 1 = .ok (.invokespecial 3, 3) := by decide +kernel
theorem dX0_init_4 : decode cX0_init 4 = .ok (.aload_n 0, 1) := by decide +kernel
theorem dX0_init_5 : decode cX0_init 5 = .ok (.iconst 0, 1) := by decide +kernel
theorem dX0_init_6 : decode cX0_init 6 = .ok (.putfield 9, 3) := by decide +kernel
theorem dX0_init_9 : decode cX0_init 9 = .ok (.aload_n 0, 1) := by decide +kernel
theorem dX0_init_10 : decode cX0_init 10 = .ok (.iconst 0, 1) := by decide +kernel
theorem dX0_init_11 : decode cX0_init 11 = .ok (.putfield 15, 3) := by decide +kernel
theorem dX0_init_14 : decode cX0_init 14 = .ok (.aload_n 0, 1) := by decide +kernel
theorem dX0_init_15 : decode cX0_init 15 = .ok (.iconst 0, 1) := by decide +kernel
theorem dX0_init_16 : decode cX0_init 16 = .ok (.putfield 18, 3) := by decide +kernel
theorem dX0_init_19 : decode cX0_init 19 = .ok (.return_, 1) := by decide +kernel
theorem dX0_follow_0 : decode cX0_follow 0 = .ok (.aload_n 0, 1) := by decide +kernel
theorem dX0_follow_1 : decode cX0_follow 1 = .ok (.iconst 0, 1) := by decide +kernel
theorem dX0_follow_2 : decode cX0_follow 2 = .ok (.putfield 9, 3) := by decide +kernel
theorem dX0_follow_5 : decode cX0_follow 5 = .ok (.aload_n 0, 1) := by decide +kernel
theorem dX0_follow_6 : decode cX0_follow 6 = .ok (.iconst 0, 1) := by decide +kernel
theorem dX0_follow_7 : decode cX0_follow 7 = .ok (.putfield 15, 3) := by decide +kernel
theorem dX0_follow_10 : decode cX0_follow 10 = .ok (.aload_n 0, 1) := by decide +kernel
theorem dX0_follow_11 : decode cX0_follow 11 = .ok (.iconst 0, 1) := by decide +kernel
theorem dX0_follow_12 : decode cX0_follow 12 = .ok (.putfield 18, 3) := by decide +kernel
theorem dX0_follow_15 : decode cX0_follow 15 = .ok (.iconst 0, 1) := by decide +kernel
theorem dX0_follow_16 : decode cX0_follow 16 = .ok (.istore 4, 2) := by decide +kernel
theorem dX0_follow_18 : decode cX0_follow 18 = .ok (.aload_n 1, 1) := by decide +kernel
theorem dX0_follow_19 : decode cX0_follow 19 = .ok (.getfield 21, 3) := by decide +kernel
theorem dX0_follow_22 : decode cX0_follow 22 = .ok (.istore 5, 2) := by decide +kernel
theorem dX0_follow_24 : decode cX0_follow 24 = .ok (.iload 5, 2) := by decide +kernel
theorem dX0_follow_26 : decode cX0_follow 26 = .ok (.iload_n 2, 1) := by decide +kernel
theorem dX0_follow_27 : decode cX0_follow 27 = .ok (.if_icmp .ge 114, 3) := by decide +kernel
theorem dX0_follow_30 : decode cX0_follow 30 = .ok (.aload_n 0, 1) := by decide +kernel
theorem dX0_follow_31 : decode cX0_follow 31 = .ok (.getfield 9, 3) := by decide +kernel
theorem dX0_follow_34 : decode cX0_follow 34 = .ok (.aload_n 1, 1) := by decide +kernel
theorem dX0_follow_35 : decode cX0_follow 35 = .ok (.getfield 26, 3) := by decide +kernel
theorem dX0_follow_38 : decode cX0_follow 38 = .ok (.if_icmp .ge 103, 3) := by decide +kernel
theorem dX0_follow_41 : decode cX0_follow 41 = .ok (.iconst 2, 1) := by decide +kernel
theorem dX0_follow_42 : decode cX0_follow 42 = .ok (.aload_n 3, 1) := by decide +kernel
theorem dX0_follow_43 : decode cX0_follow 43 = .ok (.iload 5, 2) := by decide +kernel
theorem dX0_follow_45 : decode cX0_follow 45 = .ok (.iaload, 1) := by decide +kernel
theorem dX0_follow_46 : decode cX0_follow 46 = .ok (.imul, 1) := by decide +kernel
theorem dX0_follow_47 : decode cX0_follow 47 = .ok (.aload_n 1, 1) := by decide +kernel
theorem dX0_follow_48 : decode cX0_follow 48 = .ok (.getfield 29, 3) := by decide +kernel
theorem dX0_follow_51 : decode cX0_follow 51 = .ok (.aload_n 0, 1) := by decide +kernel
theorem dX0_follow_52 : decode cX0_follow 52 = .ok (.getfield 9, 3) := by decide +kernel
theorem dX0_follow_55 : decode cX0_follow 55 = .ok (.iaload, 1) := by decide +kernel
theorem dX0_follow_56 : decode cX0_follow 56 = .ok (.if_icmp .ge 7, 3) := by decide +kernel
theorem dX0_follow_59 : decode cX0_follow 59 = .ok (.iconst 1, 1) := by decide +kernel
theorem dX0_follow_60 : decode cX0_follow 60 = .ok (.goto 4, 3) := by decide +kernel
theorem dX0_follow_63 : decode cX0_follow 63 = .ok (.iconst 0, 1) := by decide +kernel
theorem dX0_follow_64 : decode cX0_follow 64 = .ok (.istore 6, 2) := by decide +kernel
theorem dX0_follow_66 : decode cX0_follow 66 = .ok (.iload 6, 2) := by decide +kernel
theorem dX0_follow_68 : decode cX0_follow 68 = .ok (.ifCond .eq 16, 3) := by decide +kernel
theorem dX0_follow_71 : decode cX0_follow 71 = .ok (.aload_n 0, 1) := by decide +kernel
theorem dX0_follow_72 : decode cX0_follow 72 = .ok (.dup, 1) := by decide +kernel
theorem dX0_follow_73 : decode cX0_follow 73 = .ok (.getfield 15, 3) := by decide +kernel
theorem dX0_follow_76 : decode cX0_follow 76 = .ok (.iconst 1, 1) := by decide +kernel
theorem dX0_follow_77 : decode cX0_follow 77 = .ok (.iadd, 1) := by decide +kernel
theorem dX0_follow_78 : decode cX0_follow 78 = .ok (.putfield 15, 3) := by decide +kernel
theorem dX0_follow_81 : decode cX0_follow 81 = .ok (.iinc 4 1, 3) := by decide +kernel
theorem dX0_follow_84 : decode cX0_follow 84 = .ok (.iload 4, 2) := by decide +kernel
theorem dX0_follow_86 : decode cX0_follow 86 = .ok (.iconst 3, 1) := by decide +kernel
theorem dX0_follow_87 : decode cX0_follow 87 = .ok (.if_icmp .ne 7, 3) := by decide +kernel
theorem dX0_follow_90 : decode cX0_follow 90 = .ok (.iconst 1, 1) := by decide +kernel
theorem dX0_follow_91 : decode cX0_follow 91 = .ok (.goto 4, 3) := by decide +kernel
theorem dX0_follow_94 : decode cX0_follow 94 = .ok (.iconst 0, 1) := by decide +kernel
theorem dX0_follow_95 : decode cX0_follow 95 = .ok (.istore 7, 2) := by decide +kernel
theorem dX0_follow_97 : decode cX0_follow 97 = .ok (.iload 7, 2) := by decide +kernel
theorem dX0_follow_99 : decode cX0_follow 99 = .ok (.ifCond .eq 13, 3) := by decide +kernel
theorem dX0_follow_102 : decode cX0_follow 102 = .ok (.aload_n 0, 1) := by decide +kernel
theorem dX0_follow_103 : decode cX0_follow 103 = .ok (.dup, 1) := by decide +kernel
theorem dX0_follow_104 : decode cX0_follow 104 = .ok (.getfield 18, 3) := by decide +kernel
theorem dX0_follow_107 : decode cX0_follow 107 = .ok (.iconst 1, 1) := by decide +kernel
theorem dX0_follow_108 : decode cX0_follow 108 = .ok (.iadd, 1) := by decide +kernel
theorem dX0_follow_109 : decode cX0_follow 109 = .ok (.putfield 18, 3) := by decide +kernel
theorem dX0_follow_112 : decode cX0_follow 112 = .ok (.iload 7, 2) := by decide +kernel
theorem dX0_follow_114 : decode cX0_follow 114 = .ok (.ifCond .ne 8, 3) := by decide +kernel
theorem dX0_follow_117 : decode cX0_follow 117 = .ok (.iload 6, 2) := by decide +kernel
theorem dX0_follow_119 : decode cX0_follow 119 = .ok (.ifCond .ne 16, 3) := by decide +kernel
theorem dX0_follow_122 : decode cX0_follow 122 = .ok (.aload_n 0, 1) := by decide +kernel
theorem dX0_follow_123 : decode cX0_follow 123 = .ok (.dup, 1) := by decide +kernel
theorem dX0_follow_124 : decode cX0_follow 124 = .ok (.getfield 9, 3) := by decide +kernel
theorem dX0_follow_127 : decode cX0_follow 127 = .ok (.iconst 1, 1) := by decide +kernel
theorem dX0_follow_128 : decode cX0_follow 128 = .ok (.iadd, 1) := by decide +kernel
theorem dX0_follow_129 : decode cX0_follow 129 = .ok (.putfield 9, 3) := by decide +kernel
theorem dX0_follow_132 : decode cX0_follow 132 = .ok (.iconst 0, 1) := by decide +kernel
theorem dX0_follow_133 : decode cX0_follow 133 = .ok (.istore 4, 2) := by decide +kernel
theorem dX0_follow_135 : decode cX0_follow 135 = .ok (.iinc 5 1, 3) := by decide +kernel
theorem dX0_follow_138 : decode cX0_follow 138 = .ok (.goto (-114), 3) := by decide +kernel
theorem dX0_follow_141 : decode cX0_follow 141 = .ok (.return_, 1) := by decide +kernel
theorem dX1_init_0 : decode cX1_init 0 = .ok (.aload_n 0, 1) := by decide +kernel
theorem dX1_init_1 : decode cX1_init 1 = .ok (.invokespecial 3, 3) := by decide +kernel
theorem dX1_init_4 : decode cX1_init 4 = .ok (.aload_n 0, 1) := by decide +kernel
theorem dX1_init_5 : decode cX1_init 5 = .ok (.bipush 6, 2) := by decide +kernel
theorem dX1_init_7 : decode cX1_init 7 = .ok (.anewarray 9, 3) := by decide +kernel
theorem dX1_init_10 : decode cX1_init 10 = .ok (.putfield 11, 3) := by decide +kernel
theorem dX1_init_13 : decode cX1_init 13 = .ok (.aload_n 0, 1) := by decide +kernel
theorem dX1_init_14 : decode cX1_init 14 = .ok (.iconst 0, 1) := by decide +kernel
theorem dX1_init_15 : decode cX1_init 15 = .ok (.putfield 17, 3) := by decide +kernel
theorem dX1_init_18 : decode cX1_init 18 = .ok (.aload_n 0, 1) := by decide +kernel
theorem dX1_init_19 : decode cX1_init 19 = .ok (.iconst 0, 1) := by decide +kernel
theorem dX1_init_20 : decode cX1_init 20 = .ok (.putfield 21, 3) := by decide +kernel
theorem dX1_init_23 : decode cX1_init 23 = .ok (.iconst 0, 1) := by decide +kernel
theorem dX1_init_24 : decode cX1_init 24 = .ok (.istore_n 1, 1) := by decide +kernel
theorem dX1_init_25 : decode cX1_init 25 = .ok (.iload_n 1, 1) := by decide +kernel
theorem dX1_init_26 : decode cX1_init 26 = .ok (.bipush 6, 2) := by decide +kernel
theorem dX1_init_28 : decode cX1_init 28 = .ok (.if_icmp .ge 22, 3) := by decide +kernel
theorem dX1_init_31 : decode cX1_init 31 = .ok (.aload_n 0, 1) := by decide +kernel
theorem dX1_init_32 : decode cX1_init 32 = .ok (.getfield 11, 3) := by decide +kernel
theorem dX1_init_35 : decode cX1_init 35 = .ok (.iload_n 1, 1) := by decide +kernel
theorem dX1_init_36 : decode cX1_init 36 = .ok (.new 9, 3) := by decide +kernel
theorem dX1_init_39 : decode cX1_init 39 = .ok (.dup, 1) := by decide +kernel
theorem dX1_init_40 : decode cX1_init 40 = .ok (.invokespecial 24, 3) := by decide +kernel
theorem dX1_init_43 : decode cX1_init 43 = .ok (.aastore, 1) := by decide +kernel
theorem dX1_init_44 : decode cX1_init 44 = .ok (.iinc 1 1, 3) := by decide +kernel
theorem dX1_init_47 : decode cX1_init 47 = .ok (.goto (-22), 3) := by decide +kernel
theorem dX1_init_50 : decode cX1_init 50 = .ok (.return_, 1) := by decide +kernel
theorem dX1_keep_0 : decode cX1_keep 0 = .ok (.aload_n 0, 1) := by decide +kernel
theorem dX1_keep_1 : decode cX1_keep 1 = .ok (.getfield 11, 3) := by decide +kernel
theorem dX1_keep_4 : decode cX1_keep 4 = .ok (.aload_n 0, 1) := by decide +kernel
theorem dX1_keep_5 : decode cX1_keep 5 = .ok (.getfield 17, 3) := by decide +kernel
theorem dX1_keep_8 : decode cX1_keep 8 = .ok (.aaload, 1) := by decide +kernel
theorem dX1_keep_9 : decode cX1_keep 9 = .ok (.aload_n 1, 1) := by decide +kernel
theorem dX1_keep_10 : decode cX1_keep 10 = .ok (.invokevirtual 25, 3) := by decide +kernel
theorem dX1_keep_13 : decode cX1_keep 13 = .ok (.aload_n 0, 1) := by decide +kernel
theorem dX1_keep_14 : decode cX1_keep 14 = .ok (.aload_n 0, 1) := by decide +kernel
theorem dX1_keep_15 : decode cX1_keep 15 = .ok (.getfield 17, 3) := by decide +kernel
theorem dX1_keep_18 : decode cX1_keep 18 = .ok (.iconst 1, 1) := by decide +kernel
theorem dX1_keep_19 : decode cX1_keep 19 = .ok (.iadd, 1) := by decide +kernel
theorem dX1_keep_20 : decode cX1_keep 20 = .ok (.bipush 6, 2) := by decide +kernel
theorem dX1_keep_22 : decode cX1_keep 22 = .ok (.irem, 1) := by decide +kernel
theorem dX1_keep_23 : decode cX1_keep 23 = .ok (.putfield 17, 3) := by decide +kernel
theorem dX1_keep_26 : decode cX1_keep 26 = .ok (.aload_n 0, 1) := by decide +kernel
theorem dX1_keep_27 : decode cX1_keep 27 = .ok (.aload_n 0, 1) := by decide +kernel
theorem dX1_keep_28 : decode cX1_keep 28 = .ok (.getfield 21, 3) := by decide +kernel
theorem dX1_keep_31 : decode cX1_keep 31 = .ok (.iconst 1, 1) := by decide +kernel
theorem dX1_keep_32 : decode cX1_keep 32 = .ok (.iadd, 1) := by decide +kernel
theorem dX1_keep_33 : decode cX1_keep 33 = .ok (.bipush 6, 2) := by decide +kernel
theorem dX1_keep_35 : decode cX1_keep 35 = .ok (.invokestatic 29, 3) := by decide +kernel
theorem dX1_keep_38 : decode cX1_keep 38 = .ok (.putfield 21, 3) := by decide +kernel
theorem dX1_keep_41 : decode cX1_keep 41 = .ok (.return_, 1) := by decide +kernel
theorem dX1_takeBack_0 : decode cX1_takeBack 0 = .ok (.aload_n 0, 1) := by decide +kernel
theorem dX1_takeBack_1 : decode cX1_takeBack 1 = .ok (.aload_n 0, 1) := by decide +kernel
theorem dX1_takeBack_2 : decode cX1_takeBack 2 = .ok (.getfield 17, 3) := by decide +kernel
theorem dX1_takeBack_5 : decode cX1_takeBack 5 = .ok (.bipush 6, 2) := by decide +kernel
theorem dX1_takeBack_7 : decode cX1_takeBack 7 = .ok (.iadd, 1) := by decide +kernel
theorem dX1_takeBack_8 : decode cX1_takeBack 8 = .ok (.iconst 1, 1) := by decide +kernel
theorem dX1_takeBack_9 : decode cX1_takeBack 9 = .ok (.isub, 1) := by decide +kernel
theorem dX1_takeBack_10 : decode cX1_takeBack 10 = .ok (.bipush 6, 2) := by decide +kernel
theorem dX1_takeBack_12 : decode cX1_takeBack 12 = .ok (.irem, 1) := by decide +kernel
theorem dX1_takeBack_13 : decode cX1_takeBack 13 = .ok (.putfield 17, 3) := by decide +kernel
theorem dX1_takeBack_16 : decode cX1_takeBack 16 = .ok (.aload_n 0, 1) := by decide +kernel
theorem dX1_takeBack_17 : decode cX1_takeBack 17 = .ok (.dup, 1) := by decide +kernel
theorem dX1_takeBack_18 : decode cX1_takeBack 18 = .ok (.getfield 21, 3) := by decide +kernel
theorem dX1_takeBack_21 : decode cX1_takeBack 21 = .ok (.iconst 1, 1) := by decide +kernel
theorem dX1_takeBack_22 : decode cX1_takeBack 22 = .ok (.isub, 1) := by decide +kernel
theorem dX1_takeBack_23 : decode cX1_takeBack 23 = .ok (.putfield 21, 3) := by decide +kernel
theorem dX1_takeBack_26 : decode cX1_takeBack 26 = .ok (.aload_n 1, 1) := by decide +kernel
theorem dX1_takeBack_27 : decode cX1_takeBack 27 = .ok (.aload_n 0, 1) := by decide +kernel
theorem dX1_takeBack_28 : decode cX1_takeBack 28 = .ok (.getfield 11, 3) := by decide +kernel
theorem dX1_takeBack_31 : decode cX1_takeBack 31 = .ok (.aload_n 0, 1) := by decide +kernel
theorem dX1_takeBack_32 : decode cX1_takeBack 32 = .ok (.getfield 17, 3) := by decide +kernel
theorem dX1_takeBack_35 : decode cX1_takeBack 35 = .ok (.aaload, 1) := by decide +kernel
theorem dX1_takeBack_36 : decode cX1_takeBack 36 = .ok (.invokevirtual 25, 3) := by decide +kernel
theorem dX1_takeBack_39 : decode cX1_takeBack 39 = .ok (.return_, 1) := by decide +kernel
theorem dX1_forget_0 : decode cX1_forget 0 = .ok (.aload_n 0, 1) := by decide +kernel
theorem dX1_forget_1 : decode cX1_forget 1 = .ok (.iconst 0, 1) := by decide +kernel
theorem dX1_forget_2 : decode cX1_forget 2 = .ok (.putfield 21, 3) := by decide +kernel
theorem dX1_forget_5 : decode cX1_forget 5 = .ok (.return_, 1) := by decide +kernel
theorem dX2_init_0 : decode cX2_init 0 = .ok (.aload_n 0, 1) := by decide +kernel
theorem dX2_init_1 : decode cX2_init 1 = .ok (.invokespecial 3, 3) := by decide +kernel
theorem dX2_init_4 : decode cX2_init 4 = .ok (.aload_n 0, 1) := by decide +kernel
theorem dX2_init_5 : decode cX2_init 5 = .ok (.iconst 0, 1) := by decide +kernel
theorem dX2_init_6 : decode cX2_init 6 = .ok (.putfield 9, 3) := by decide +kernel
theorem dX2_init_9 : decode cX2_init 9 = .ok (.aload_n 0, 1) := by decide +kernel
theorem dX2_init_10 : decode cX2_init 10 = .ok (.iconst 0, 1) := by decide +kernel
theorem dX2_init_11 : decode cX2_init 11 = .ok (.putfield 15, 3) := by decide +kernel
theorem dX2_init_14 : decode cX2_init 14 = .ok (.aload_n 0, 1) := by decide +kernel
theorem dX2_init_15 : decode cX2_init 15 = .ok (.iconst 0, 1) := by decide +kernel
theorem dX2_init_16 : decode cX2_init 16 = .ok (.putfield 19, 3) := by decide +kernel
theorem dX2_init_19 : decode cX2_init 19 = .ok (.aload_n 0, 1) := by decide +kernel
theorem dX2_init_20 : decode cX2_init 20 = .ok (.bipush 28, 2) := by decide +kernel
theorem dX2_init_22 : decode cX2_init 22 = .ok (.newarray .int, 2) := by decide +kernel
theorem dX2_init_24 : decode cX2_init 24 = .ok (.putfield 22, 3) := by decide +kernel
theorem dX2_init_27 : decode cX2_init 27 = .ok (.return_, 1) := by decide +kernel
theorem dX2_copyFrom_0 : decode cX2_copyFrom 0 = .ok (.aload_n 0, 1) := by decide +kernel
theorem dX2_copyFrom_1 : decode cX2_copyFrom 1 = .ok (.aload_n 1, 1) := by decide +kernel
theorem dX2_copyFrom_2 : decode cX2_copyFrom 2 = .ok (.getfield 9, 3) := by decide +kernel
theorem dX2_copyFrom_5 : decode cX2_copyFrom 5 = .ok (.putfield 9, 3) := by decide +kernel
theorem dX2_copyFrom_8 : decode cX2_copyFrom 8 = .ok (.aload_n 0, 1) := by decide +kernel
theorem dX2_copyFrom_9 : decode cX2_copyFrom 9 = .ok (.aload_n 1, 1) := by decide +kernel
theorem dX2_copyFrom_10 : decode cX2_copyFrom 10 = .ok (.getfield 15, 3) := by decide +kernel
theorem dX2_copyFrom_13 : decode cX2_copyFrom 13 = .ok (.putfield 15, 3) := by decide +kernel
theorem dX2_copyFrom_16 : decode cX2_copyFrom 16 = .ok (.aload_n 0, 1) := by decide +kernel
theorem dX2_copyFrom_17 : decode cX2_copyFrom 17 = .ok (.aload_n 1, 1) := by decide +kernel
theorem dX2_copyFrom_18 : decode cX2_copyFrom 18 = .ok (.getfield 19, 3) := by decide +kernel
theorem dX2_copyFrom_21 : decode cX2_copyFrom 21 = .ok (.putfield 19, 3) := by decide +kernel
theorem dX2_copyFrom_24 : decode cX2_copyFrom 24 = .ok (.aload_n 1, 1) := by decide +kernel
theorem dX2_copyFrom_25 : decode cX2_copyFrom 25 = .ok (.getfield 22, 3) := by decide +kernel
theorem dX2_copyFrom_28 : decode cX2_copyFrom 28 = .ok (.iconst 0, 1) := by decide +kernel
theorem dX2_copyFrom_29 : decode cX2_copyFrom 29 = .ok (.aload_n 0, 1) := by decide +kernel
theorem dX2_copyFrom_30 : decode cX2_copyFrom 30 = .ok (.getfield 22, 3) := by decide +kernel
theorem dX2_copyFrom_33 : decode cX2_copyFrom 33 = .ok (.iconst 0, 1) := by decide +kernel
theorem dX2_copyFrom_34 : decode cX2_copyFrom 34 = .ok (.aload_n 1, 1) := by decide +kernel
theorem dX2_copyFrom_35 : decode cX2_copyFrom 35 = .ok (.getfield 19, 3) := by decide +kernel
theorem dX2_copyFrom_38 : decode cX2_copyFrom 38 = .ok (.invokestatic 26, 3) := by decide +kernel
theorem dX2_copyFrom_41 : decode cX2_copyFrom 41 = .ok (.return_, 1) := by decide +kernel
theorem dX2_start_0 : decode cX2_start 0 = .ok (.aload_n 0, 1) := by decide +kernel
theorem dX2_start_1 : decode cX2_start 1 = .ok (.iconst 1, 1) := by decide +kernel
theorem dX2_start_2 : decode cX2_start 2 = .ok (.putfield 9, 3) := by decide +kernel
theorem dX2_start_5 : decode cX2_start 5 = .ok (.aload_n 0, 1) := by decide +kernel
theorem dX2_start_6 : decode cX2_start 6 = .ok (.iload_n 1, 1) := by decide +kernel
theorem dX2_start_7 : decode cX2_start 7 = .ok (.putfield 15, 3) := by decide +kernel
theorem dX2_start_10 : decode cX2_start 10 = .ok (.aload_n 0, 1) := by decide +kernel
theorem dX2_start_11 : decode cX2_start 11 = .ok (.iconst 0, 1) := by decide +kernel
theorem dX2_start_12 : decode cX2_start 12 = .ok (.putfield 19, 3) := by decide +kernel
theorem dX2_start_15 : decode cX2_start 15 = .ok (.return_, 1) := by decide +kernel
theorem dX2_append_0 : decode cX2_append 0 = .ok (.aload_n 0, 1) := by decide +kernel
theorem dX2_append_1 : decode cX2_append 1 = .ok (.getfield 22, 3) := by decide +kernel
theorem dX2_append_4 : decode cX2_append 4 = .ok (.aload_n 0, 1) := by decide +kernel
theorem dX2_append_5 : decode cX2_append 5 = .ok (.getfield 19, 3) := by decide +kernel
theorem dX2_append_8 : decode cX2_append 8 = .ok (.iload_n 1, 1) := by decide +kernel
theorem dX2_append_9 : decode cX2_append 9 = .ok (.iastore, 1) := by decide +kernel
theorem dX2_append_10 : decode cX2_append 10 = .ok (.aload_n 0, 1) := by decide +kernel
theorem dX2_append_11 : decode cX2_append 11 = .ok (.dup, 1) := by decide +kernel
theorem dX2_append_12 : decode cX2_append 12 = .ok (.getfield 19, 3) := by decide +kernel
theorem dX2_append_15 : decode cX2_append 15 = .ok (.iconst 1, 1) := by decide +kernel
theorem dX2_append_16 : decode cX2_append 16 = .ok (.iadd, 1) := by decide +kernel
theorem dX2_append_17 : decode cX2_append 17 = .ok (.putfield 19, 3) := by decide +kernel
theorem dX2_append_20 : decode cX2_append 20 = .ok (.return_, 1) := by decide +kernel
theorem dX3_init_0 : decode cX3_init 0 = .ok (.aload_n 0, 1) := by decide +kernel
theorem dX3_init_1 : decode cX3_init 1 = .ok (.invokespecial 3, 3) := by decide +kernel
theorem dX3_init_4 : decode cX3_init 4 = .ok (.aload_n 0, 1) := by decide +kernel
theorem dX3_init_5 : decode cX3_init 5 = .ok (.iconst 0, 1) := by decide +kernel
theorem dX3_init_6 : decode cX3_init 6 = .ok (.putfield 9, 3) := by decide +kernel
theorem dX3_init_9 : decode cX3_init 9 = .ok (.aload_n 0, 1) := by decide +kernel
theorem dX3_init_10 : decode cX3_init 10 = .ok (.iconst 0, 1) := by decide +kernel
theorem dX3_init_11 : decode cX3_init 11 = .ok (.putfield 15, 3) := by decide +kernel
theorem dX3_init_14 : decode cX3_init 14 = .ok (.aload_n 0, 1) := by decide +kernel
theorem dX3_init_15 : decode cX3_init 15 = .ok (.iconst 0, 1) := by decide +kernel
theorem dX3_init_16 : decode cX3_init 16 = .ok (.putfield 18, 3) := by decide +kernel
theorem dX3_init_19 : decode cX3_init 19 = .ok (.aload_n 0, 1) := by decide +kernel
theorem dX3_init_20 : decode cX3_init 20 = .ok (.bipush 8, 2) := by decide +kernel
theorem dX3_init_22 : decode cX3_init 22 = .ok (.newarray .int, 2) := by decide +kernel
theorem dX3_init_24 : decode cX3_init 24 = .ok (.putfield 21, 3) := by decide +kernel
theorem dX3_init_27 : decode cX3_init 27 = .ok (.aload_n 0, 1) := by decide +kernel
theorem dX3_init_28 : decode cX3_init 28 = .ok (.bipush 8, 2) := by decide +kernel
theorem dX3_init_30 : decode cX3_init 30 = .ok (.newarray .int, 2) := by decide +kernel
theorem dX3_init_32 : decode cX3_init 32 = .ok (.putfield 25, 3) := by decide +kernel
theorem dX3_init_35 : decode cX3_init 35 = .ok (.return_, 1) := by decide +kernel
theorem dX3_copyFrom_0 : decode cX3_copyFrom 0 = .ok (.aload_n 0, 1) := by decide +kernel
theorem dX3_copyFrom_1 : decode cX3_copyFrom 1 = .ok (.aload_n 1, 1) := by decide +kernel
theorem dX3_copyFrom_2 : decode cX3_copyFrom 2 = .ok (.getfield 9, 3) := by decide +kernel
theorem dX3_copyFrom_5 : decode cX3_copyFrom 5 = .ok (.putfield 9, 3) := by decide +kernel
theorem dX3_copyFrom_8 : decode cX3_copyFrom 8 = .ok (.aload_n 0, 1) := by decide +kernel
theorem dX3_copyFrom_9 : decode cX3_copyFrom 9 = .ok (.aload_n 1, 1) := by decide +kernel
theorem dX3_copyFrom_10 : decode cX3_copyFrom 10 = .ok (.getfield 15, 3) := by decide +kernel
theorem dX3_copyFrom_13 : decode cX3_copyFrom 13 = .ok (.putfield 15, 3) := by decide +kernel
theorem dX3_copyFrom_16 : decode cX3_copyFrom 16 = .ok (.aload_n 0, 1) := by decide +kernel
theorem dX3_copyFrom_17 : decode cX3_copyFrom 17 = .ok (.aload_n 1, 1) := by decide +kernel
theorem dX3_copyFrom_18 : decode cX3_copyFrom 18 = .ok (.getfield 18, 3) := by decide +kernel
theorem dX3_copyFrom_21 : decode cX3_copyFrom 21 = .ok (.putfield 18, 3) := by decide +kernel
theorem dX3_copyFrom_24 : decode cX3_copyFrom 24 = .ok (.aload_n 1, 1) := by decide +kernel
theorem dX3_copyFrom_25 : decode cX3_copyFrom 25 = .ok (.getfield 21, 3) := by decide +kernel
theorem dX3_copyFrom_28 : decode cX3_copyFrom 28 = .ok (.iconst 0, 1) := by decide +kernel
theorem dX3_copyFrom_29 : decode cX3_copyFrom 29 = .ok (.aload_n 0, 1) := by decide +kernel
theorem dX3_copyFrom_30 : decode cX3_copyFrom 30 = .ok (.getfield 21, 3) := by decide +kernel
theorem dX3_copyFrom_33 : decode cX3_copyFrom 33 = .ok (.iconst 0, 1) := by decide +kernel
theorem dX3_copyFrom_34 : decode cX3_copyFrom 34 = .ok (.aload_n 1, 1) := by decide +kernel
theorem dX3_copyFrom_35 : decode cX3_copyFrom 35 = .ok (.getfield 18, 3) := by decide +kernel
theorem dX3_copyFrom_38 : decode cX3_copyFrom 38 = .ok (.invokestatic 28, 3) := by decide +kernel
theorem dX3_copyFrom_41 : decode cX3_copyFrom 41 = .ok (.aload_n 1, 1) := by decide +kernel
theorem dX3_copyFrom_42 : decode cX3_copyFrom 42 = .ok (.getfield 25, 3) := by decide +kernel
theorem dX3_copyFrom_45 : decode cX3_copyFrom 45 = .ok (.iconst 0, 1) := by decide +kernel
theorem dX3_copyFrom_46 : decode cX3_copyFrom 46 = .ok (.aload_n 0, 1) := by decide +kernel
theorem dX3_copyFrom_47 : decode cX3_copyFrom 47 = .ok (.getfield 25, 3) := by decide +kernel
theorem dX3_copyFrom_50 : decode cX3_copyFrom 50 = .ok (.iconst 0, 1) := by decide +kernel
theorem dX3_copyFrom_51 : decode cX3_copyFrom 51 = .ok (.aload_n 1, 1) := by decide +kernel
theorem dX3_copyFrom_52 : decode cX3_copyFrom 52 = .ok (.getfield 18, 3) := by decide +kernel
theorem dX3_copyFrom_55 : decode cX3_copyFrom 55 = .ok (.invokestatic 28, 3) := by decide +kernel
theorem dX3_copyFrom_58 : decode cX3_copyFrom 58 = .ok (.return_, 1) := by decide +kernel
theorem dX3_comesBefore_0 : decode cX3_comesBefore 0 = .ok (.aload_n 0, 1) := by decide +kernel
theorem dX3_comesBefore_1 : decode cX3_comesBefore 1 = .ok (.getfield 15, 3) := by decide +kernel
theorem dX3_comesBefore_4 : decode cX3_comesBefore 4 = .ok (.aload_n 1, 1) := by decide +kernel
theorem dX3_comesBefore_5 : decode cX3_comesBefore 5 = .ok (.getfield 15, 3) := by decide +kernel
theorem dX3_comesBefore_8 : decode cX3_comesBefore 8 = .ok (.if_icmp .lt 25, 3) := by decide +kernel
theorem dX3_comesBefore_11 : decode cX3_comesBefore 11 = .ok (.aload_n 0, 1) := by decide +kernel
theorem dX3_comesBefore_12 : decode cX3_comesBefore 12 = .ok (.getfield 15, 3) := by decide +kernel
theorem dX3_comesBefore_15 : decode cX3_comesBefore 15 = .ok (.aload_n 1, 1) := by decide +kernel
theorem dX3_comesBefore_16 : decode cX3_comesBefore 16 = .ok (.getfield 15, 3) := by decide +kernel
theorem dX3_comesBefore_19 : decode cX3_comesBefore 19 = .ok (.if_icmp .ne 18, 3) := by decide +kernel
theorem dX3_comesBefore_22 : decode cX3_comesBefore 22 = .ok (.aload_n 0, 1) := by decide +kernel
theorem dX3_comesBefore_23 : decode cX3_comesBefore 23 = .ok (.getfield 9, 3) := by decide +kernel
theorem dX3_comesBefore_26 : decode cX3_comesBefore 26 = .ok (.aload_n 1, 1) := by decide +kernel
theorem dX3_comesBefore_27 : decode cX3_comesBefore 27 = .ok (.getfield 9, 3) := by decide +kernel
theorem dX3_comesBefore_30 : decode cX3_comesBefore 30 = .ok (.if_icmp .ge 7, 3) := by decide +kernel
theorem dX3_comesBefore_33 : decode cX3_comesBefore 33 = .ok (.iconst 1, 1) := by decide +kernel
theorem dX3_comesBefore_34 : decode cX3_comesBefore 34 = .ok (.goto 4, 3) := by decide +kernel
theorem dX3_comesBefore_37 : decode cX3_comesBefore 37 = .ok (.iconst 0, 1) := by decide +kernel
theorem dX3_comesBefore_38 : decode cX3_comesBefore 38 = .ok (.ireturn, 1) := by decide +kernel
theorem dX3_append_0 : decode cX3_append 0 = .ok (.aload_n 0, 1) := by decide +kernel
theorem dX3_append_1 : decode cX3_append 1 = .ok (.getfield 21, 3) := by decide +kernel
theorem dX3_append_4 : decode cX3_append 4 = .ok (.aload_n 0, 1) := by decide +kernel
theorem dX3_append_5 : decode cX3_append 5 = .ok (.getfield 18, 3) := by decide +kernel
theorem dX3_append_8 : decode cX3_append 8 = .ok (.iload_n 1, 1) := by decide +kernel
theorem dX3_append_9 : decode cX3_append 9 = .ok (.iastore, 1) := by decide +kernel
theorem dX3_append_10 : decode cX3_append 10 = .ok (.aload_n 0, 1) := by decide +kernel
theorem dX3_append_11 : decode cX3_append 11 = .ok (.getfield 25, 3) := by decide +kernel
theorem dX3_append_14 : decode cX3_append 14 = .ok (.aload_n 0, 1) := by decide +kernel
theorem dX3_append_15 : decode cX3_append 15 = .ok (.getfield 18, 3) := by decide +kernel
theorem dX3_append_18 : decode cX3_append 18 = .ok (.iload_n 2, 1) := by decide +kernel
theorem dX3_append_19 : decode cX3_append 19 = .ok (.iastore, 1) := by decide +kernel
theorem dX3_append_20 : decode cX3_append 20 = .ok (.aload_n 0, 1) := by decide +kernel
theorem dX3_append_21 : decode cX3_append 21 = .ok (.dup, 1) := by decide +kernel
theorem dX3_append_22 : decode cX3_append 22 = .ok (.getfield 18, 3) := by decide +kernel
theorem dX3_append_25 : decode cX3_append 25 = .ok (.iconst 1, 1) := by decide +kernel
theorem dX3_append_26 : decode cX3_append 26 = .ok (.iadd, 1) := by decide +kernel
theorem dX3_append_27 : decode cX3_append 27 = .ok (.putfield 18, 3) := by decide +kernel
theorem dX3_append_30 : decode cX3_append 30 = .ok (.return_, 1) := by decide +kernel
theorem dX3_length_0 : decode cX3_length 0 = .ok (.iconst 0, 1) := by decide +kernel
theorem dX3_length_1 : decode cX3_length 1 = .ok (.istore_n 1, 1) := by decide +kernel
theorem dX3_length_2 : decode cX3_length 2 = .ok (.iconst 0, 1) := by decide +kernel
theorem dX3_length_3 : decode cX3_length 3 = .ok (.istore_n 2, 1) := by decide +kernel
theorem dX3_length_4 : decode cX3_length 4 = .ok (.iload_n 2, 1) := by decide +kernel
theorem dX3_length_5 : decode cX3_length 5 = .ok (.aload_n 0, 1) := by decide +kernel
theorem dX3_length_6 : decode cX3_length 6 = .ok (.getfield 18, 3) := by decide +kernel
theorem dX3_length_9 : decode cX3_length 9 = .ok (.if_icmp .ge 18, 3) := by decide +kernel
theorem dX3_length_12 : decode cX3_length 12 = .ok (.iload_n 1, 1) := by decide +kernel
theorem dX3_length_13 : decode cX3_length 13 = .ok (.aload_n 0, 1) := by decide +kernel
theorem dX3_length_14 : decode cX3_length 14 = .ok (.getfield 21, 3) := by decide +kernel
theorem dX3_length_17 : decode cX3_length 17 = .ok (.iload_n 2, 1) := by decide +kernel
theorem dX3_length_18 : decode cX3_length 18 = .ok (.iaload, 1) := by decide +kernel
theorem dX3_length_19 : decode cX3_length 19 = .ok (.iadd, 1) := by decide +kernel
theorem dX3_length_20 : decode cX3_length 20 = .ok (.istore_n 1, 1) := by decide +kernel
theorem dX3_length_21 : decode cX3_length 21 = .ok (.iinc 2 1, 3) := by decide +kernel
theorem dX3_length_24 : decode cX3_length 24 = .ok (.goto (-20), 3) := by decide +kernel
theorem dX3_length_27 : decode cX3_length 27 = .ok (.iload_n 1, 1) := by decide +kernel
theorem dX3_length_28 : decode cX3_length 28 = .ok (.ireturn, 1) := by decide +kernel
theorem dX3_fillMinutes_0 : decode cX3_fillMinutes 0 = .ok (.iconst 0, 1) := by decide +kernel
theorem dX3_fillMinutes_1 : decode cX3_fillMinutes 1 = .ok (.istore_n 2, 1) := by decide +kernel
theorem dX3_fillMinutes_2 : decode cX3_fillMinutes 2 = .ok (.iconst 0, 1) := by decide +kernel
theorem dX3_fillMinutes_3 : decode cX3_fillMinutes 3 = .ok (.istore_n 3, 1) := by decide +kernel
theorem dX3_fillMinutes_4 : decode cX3_fillMinutes 4 = .ok (.iload_n 3, 1) := by decide +kernel
theorem dX3_fillMinutes_5 : decode cX3_fillMinutes 5 = .ok (.aload_n 0, 1) := by decide +kernel
theorem dX3_fillMinutes_6 : decode cX3_fillMinutes 6 = .ok (.getfield 18, 3) := by decide +kernel
theorem dX3_fillMinutes_9 : decode cX3_fillMinutes 9 = .ok (.if_icmp .ge 48, 3) := by decide +kernel
theorem dX3_fillMinutes_12 : decode cX3_fillMinutes 12 = .ok (.iload_n 2, 1) := by decide +kernel
theorem dX3_fillMinutes_13 : decode cX3_fillMinutes 13 = .ok (.aload_n 0, 1) := by decide +kernel
theorem dX3_fillMinutes_14 : decode cX3_fillMinutes 14 = .ok (.getfield 21, 3) := by decide +kernel
theorem dX3_fillMinutes_17 : decode cX3_fillMinutes 17 = .ok (.iload_n 3, 1) := by decide +kernel
theorem dX3_fillMinutes_18 : decode cX3_fillMinutes 18 = .ok (.iaload, 1) := by decide +kernel
theorem dX3_fillMinutes_19 : decode cX3_fillMinutes 19 = .ok (.iadd, 1) := by decide +kernel
theorem dX3_fillMinutes_20 : decode cX3_fillMinutes 20 = .ok (.istore 4, 2) := by decide +kernel
theorem dX3_fillMinutes_22 : decode cX3_fillMinutes 22 = .ok (.iload_n 2, 1) := by decide +kernel
theorem dX3_fillMinutes_23 : decode cX3_fillMinutes 23 = .ok (.istore 5, 2) := by decide +kernel
theorem dX3_fillMinutes_25 : decode cX3_fillMinutes 25 = .ok (.iload 5, 2) := by decide +kernel
theorem dX3_fillMinutes_27 : decode cX3_fillMinutes 27 = .ok (.iload 4, 2) := by decide +kernel
theorem dX3_fillMinutes_29 : decode cX3_fillMinutes 29 = .ok (.if_icmp .ge 19, 3) := by decide +kernel
theorem dX3_fillMinutes_32 : decode cX3_fillMinutes 32 = .ok (.aload_n 1, 1) := by decide +kernel
theorem dX3_fillMinutes_33 : decode cX3_fillMinutes 33 = .ok (.iload 5, 2) := by decide +kernel
theorem dX3_fillMinutes_35 : decode cX3_fillMinutes 35 = .ok (.aload_n 0, 1) := by decide +kernel
theorem dX3_fillMinutes_36 : decode cX3_fillMinutes 36 = .ok (.getfield 25, 3) := by decide +kernel
theorem dX3_fillMinutes_39 : decode cX3_fillMinutes 39 = .ok (.iload_n 3, 1) := by decide +kernel
theorem dX3_fillMinutes_40 : decode cX3_fillMinutes 40 = .ok (.iaload, 1) := by decide +kernel
theorem dX3_fillMinutes_41 : decode cX3_fillMinutes 41 = .ok (.iastore, 1) := by decide +kernel
theorem dX3_fillMinutes_42 : decode cX3_fillMinutes 42 = .ok (.iinc 5 1, 3) := by decide +kernel
theorem dX3_fillMinutes_45 : decode cX3_fillMinutes 45 = .ok (.goto (-20), 3) := by decide +kernel
theorem dX3_fillMinutes_48 : decode cX3_fillMinutes 48 = .ok (.iload 4, 2) := by decide +kernel
theorem dX3_fillMinutes_50 : decode cX3_fillMinutes 50 = .ok (.istore_n 2, 1) := by decide +kernel
theorem dX3_fillMinutes_51 : decode cX3_fillMinutes 51 = .ok (.iinc 3 1, 3) := by decide +kernel
theorem dX3_fillMinutes_54 : decode cX3_fillMinutes 54 = .ok (.goto (-50), 3) := by decide +kernel
theorem dX3_fillMinutes_57 : decode cX3_fillMinutes 57 = .ok (.iload_n 2, 1) := by decide +kernel
theorem dX3_fillMinutes_58 : decode cX3_fillMinutes 58 = .ok (.ireturn, 1) := by decide +kernel
theorem dX4_init_0 : decode cX4_init 0 = .ok (.aload_n 0, 1) := by decide +kernel
theorem dX4_init_1 : decode cX4_init 1 = .ok (.invokespecial 3, 3) := by decide +kernel
theorem dX4_init_4 : decode cX4_init 4 = .ok (.aload_n 0, 1) := by decide +kernel
theorem dX4_init_5 : decode cX4_init 5 = .ok (.bipush 40, 2) := by decide +kernel
theorem dX4_init_7 : decode cX4_init 7 = .ok (.anewarray 9, 3) := by decide +kernel
theorem dX4_init_10 : decode cX4_init 10 = .ok (.putfield 11, 3) := by decide +kernel
theorem dX4_init_13 : decode cX4_init 13 = .ok (.aload_n 0, 1) := by decide +kernel
theorem dX4_init_14 : decode cX4_init 14 = .ok (.iconst 0, 1) := by decide +kernel
theorem dX4_init_15 : decode cX4_init 15 = .ok (.putfield 17, 3) := by decide +kernel
theorem dX4_init_18 : decode cX4_init 18 = .ok (.aload_n 0, 1) := by decide +kernel
theorem dX4_init_19 : decode cX4_init 19 = .ok (.iconst 0, 1) := by decide +kernel
theorem dX4_init_20 : decode cX4_init 20 = .ok (.putfield 21, 3) := by decide +kernel
theorem dX4_init_23 : decode cX4_init 23 = .ok (.iconst 0, 1) := by decide +kernel
theorem dX4_init_24 : decode cX4_init 24 = .ok (.istore_n 1, 1) := by decide +kernel
theorem dX4_init_25 : decode cX4_init 25 = .ok (.iload_n 1, 1) := by decide +kernel
theorem dX4_init_26 : decode cX4_init 26 = .ok (.bipush 40, 2) := by decide +kernel
theorem dX4_init_28 : decode cX4_init 28 = .ok (.if_icmp .ge 22, 3) := by decide +kernel
theorem dX4_init_31 : decode cX4_init 31 = .ok (.aload_n 0, 1) := by decide +kernel
theorem dX4_init_32 : decode cX4_init 32 = .ok (.getfield 11, 3) := by decide +kernel
theorem dX4_init_35 : decode cX4_init 35 = .ok (.iload_n 1, 1) := by decide +kernel
theorem dX4_init_36 : decode cX4_init 36 = .ok (.new 9, 3) := by decide +kernel
theorem dX4_init_39 : decode cX4_init 39 = .ok (.dup, 1) := by decide +kernel
theorem dX4_init_40 : decode cX4_init 40 = .ok (.invokespecial 24, 3) := by decide +kernel
theorem dX4_init_43 : decode cX4_init 43 = .ok (.aastore, 1) := by decide +kernel
theorem dX4_init_44 : decode cX4_init 44 = .ok (.iinc 1 1, 3) := by decide +kernel
theorem dX4_init_47 : decode cX4_init 47 = .ok (.goto (-22), 3) := by decide +kernel
theorem dX4_init_50 : decode cX4_init 50 = .ok (.return_, 1) := by decide +kernel
theorem dX4_copyFrom_0 : decode cX4_copyFrom 0 = .ok (.iconst 0, 1) := by decide +kernel
theorem dX4_copyFrom_1 : decode cX4_copyFrom 1 = .ok (.istore_n 2, 1) := by decide +kernel
theorem dX4_copyFrom_2 : decode cX4_copyFrom 2 = .ok (.iload_n 2, 1) := by decide +kernel
theorem dX4_copyFrom_3 : decode cX4_copyFrom 3 = .ok (.aload_n 1, 1) := by decide +kernel
theorem dX4_copyFrom_4 : decode cX4_copyFrom 4 = .ok (.getfield 17, 3) := by decide +kernel
theorem dX4_copyFrom_7 : decode cX4_copyFrom 7 = .ok (.if_icmp .ge 24, 3) := by decide +kernel
theorem dX4_copyFrom_10 : decode cX4_copyFrom 10 = .ok (.aload_n 0, 1) := by decide +kernel
theorem dX4_copyFrom_11 : decode cX4_copyFrom 11 = .ok (.getfield 11, 3) := by decide +kernel
theorem dX4_copyFrom_14 : decode cX4_copyFrom 14 = .ok (.iload_n 2, 1) := by decide +kernel
theorem dX4_copyFrom_15 : decode cX4_copyFrom 15 = .ok (.aaload, 1) := by decide +kernel
theorem dX4_copyFrom_16 : decode cX4_copyFrom 16 = .ok (.aload_n 1, 1) := by decide +kernel
theorem dX4_copyFrom_17 : decode cX4_copyFrom 17 = .ok (.getfield 11, 3) := by decide +kernel
theorem dX4_copyFrom_20 : decode cX4_copyFrom 20 = .ok (.iload_n 2, 1) := by decide +kernel
theorem dX4_copyFrom_21 : decode cX4_copyFrom 21 = .ok (.aaload, 1) := by decide +kernel
theorem dX4_copyFrom_22 : decode cX4_copyFrom 22 = .ok (.invokevirtual 25, 3) := by decide +kernel
theorem dX4_copyFrom_25 : decode cX4_copyFrom 25 = .ok (.iinc 2 1, 3) := by decide +kernel
theorem dX4_copyFrom_28 : decode cX4_copyFrom 28 = .ok (.goto (-26), 3) := by decide +kernel
theorem dX4_copyFrom_31 : decode cX4_copyFrom 31 = .ok (.aload_n 0, 1) := by decide +kernel
theorem dX4_copyFrom_32 : decode cX4_copyFrom 32 = .ok (.aload_n 1, 1) := by decide +kernel
theorem dX4_copyFrom_33 : decode cX4_copyFrom 33 = .ok (.getfield 17, 3) := by decide +kernel
theorem dX4_copyFrom_36 : decode cX4_copyFrom 36 = .ok (.putfield 17, 3) := by decide +kernel
theorem dX4_copyFrom_39 : decode cX4_copyFrom 39 = .ok (.aload_n 0, 1) := by decide +kernel
theorem dX4_copyFrom_40 : decode cX4_copyFrom 40 = .ok (.aload_n 1, 1) := by decide +kernel
theorem dX4_copyFrom_41 : decode cX4_copyFrom 41 = .ok (.getfield 21, 3) := by decide +kernel
theorem dX4_copyFrom_44 : decode cX4_copyFrom 44 = .ok (.putfield 21, 3) := by decide +kernel
theorem dX4_copyFrom_47 : decode cX4_copyFrom 47 = .ok (.return_, 1) := by decide +kernel
theorem dX4_positionWithId_0 : decode cX4_positionWithId 0 = .ok (.iconst 0, 1) := by decide +kernel
theorem dX4_positionWithId_1 : decode cX4_positionWithId 1 = .ok (.istore_n 2, 1) := by decide +kernel
theorem dX4_positionWithId_2 : decode cX4_positionWithId 2 = .ok (.iload_n 2, 1) := by decide +kernel
theorem dX4_positionWithId_3 : decode cX4_positionWithId 3 = .ok (.aload_n 0, 1) := by decide +kernel
theorem dX4_positionWithId_4 : decode cX4_positionWithId 4 = .ok (.getfield 17, 3) := by decide +kernel
theorem dX4_positionWithId_7 : decode cX4_positionWithId 7 = .ok (.if_icmp .ge 24, 3) := by decide +kernel
theorem dX4_positionWithId_10 : decode cX4_positionWithId 10 = .ok (.aload_n 0, 1) := by decide +kernel
theorem dX4_positionWithId_11 : decode cX4_positionWithId 11 = .ok (.getfield 11, 3) := by decide +kernel
theorem dX4_positionWithId_14 : decode cX4_positionWithId 14 = .ok (.iload_n 2, 1) := by decide +kernel
theorem dX4_positionWithId_15 : decode cX4_positionWithId 15 = .ok (.aaload, 1) := by decide +kernel
theorem dX4_positionWithId_16 : decode cX4_positionWithId 16 = .ok (.getfield 29, 3) := by decide +kernel
theorem dX4_positionWithId_19 : decode cX4_positionWithId 19 = .ok (.iload_n 1, 1) := by decide +kernel
theorem dX4_positionWithId_20 : decode cX4_positionWithId 20 = .ok (.if_icmp .ne 5, 3) := by decide +kernel
theorem dX4_positionWithId_23 : decode cX4_positionWithId 23 = .ok (.iload_n 2, 1) := by decide +kernel
theorem dX4_positionWithId_24 : decode cX4_positionWithId 24 = .ok (.ireturn, 1) := by decide +kernel
theorem dX4_positionWithId_25 : decode cX4_positionWithId 25 = .ok (.iinc 2 1, 3) := by decide +kernel
theorem dX4_positionWithId_28 : decode cX4_positionWithId 28 = .ok (.goto (-26), 3) := by decide +kernel
theorem dX4_positionWithId_31 : decode cX4_positionWithId 31 = .ok (.iconst (-1), 1) := by decide +kernel
theorem dX4_positionWithId_32 : decode cX4_positionWithId 32 = .ok (.ireturn, 1) := by decide +kernel
theorem dX4_anyOn_0 : decode cX4_anyOn 0 = .ok (.iconst 0, 1) := by decide +kernel
theorem dX4_anyOn_1 : decode cX4_anyOn 1 = .ok (.istore_n 2, 1) := by decide +kernel
theorem dX4_anyOn_2 : decode cX4_anyOn 2 = .ok (.iload_n 2, 1) := by decide +kernel
theorem dX4_anyOn_3 : decode cX4_anyOn 3 = .ok (.aload_n 0, 1) := by decide +kernel
theorem dX4_anyOn_4 : decode cX4_anyOn 4 = .ok (.getfield 17, 3) := by decide +kernel
theorem dX4_anyOn_7 : decode cX4_anyOn 7 = .ok (.if_icmp .ge 24, 3) := by decide +kernel
theorem dX4_anyOn_10 : decode cX4_anyOn 10 = .ok (.aload_n 0, 1) := by decide +kernel
theorem dX4_anyOn_11 : decode cX4_anyOn 11 = .ok (.getfield 11, 3) := by decide +kernel
theorem dX4_anyOn_14 : decode cX4_anyOn 14 = .ok (.iload_n 2, 1) := by decide +kernel
theorem dX4_anyOn_15 : decode cX4_anyOn 15 = .ok (.aaload, 1) := by decide +kernel
theorem dX4_anyOn_16 : decode cX4_anyOn 16 = .ok (.getfield 32, 3) := by decide +kernel
theorem dX4_anyOn_19 : decode cX4_anyOn 19 = .ok (.iload_n 1, 1) := by decide +kernel
theorem dX4_anyOn_20 : decode cX4_anyOn 20 = .ok (.if_icmp .ne 5, 3) := by decide +kernel
theorem dX4_anyOn_23 : decode cX4_anyOn 23 = .ok (.iconst 1, 1) := by decide +kernel
theorem dX4_anyOn_24 : decode cX4_anyOn 24 = .ok (.ireturn, 1) := by decide +kernel
theorem dX4_anyOn_25 : decode cX4_anyOn 25 = .ok (.iinc 2 1, 3) := by decide +kernel
theorem dX4_anyOn_28 : decode cX4_anyOn 28 = .ok (.goto (-26), 3) := by decide +kernel
theorem dX4_anyOn_31 : decode cX4_anyOn 31 = .ok (.iconst 0, 1) := by decide +kernel
theorem dX4_anyOn_32 : decode cX4_anyOn 32 = .ok (.ireturn, 1) := by decide +kernel
theorem dX4_hasLength_0 : decode cX4_hasLength 0 = .ok (.iconst 0, 1) := by decide +kernel
theorem dX4_hasLength_1 : decode cX4_hasLength 1 = .ok (.istore_n 2, 1) := by decide +kernel
theorem dX4_hasLength_2 : decode cX4_hasLength 2 = .ok (.iload_n 2, 1) := by decide +kernel
theorem dX4_hasLength_3 : decode cX4_hasLength 3 = .ok (.aload_n 0, 1) := by decide +kernel
theorem dX4_hasLength_4 : decode cX4_hasLength 4 = .ok (.getfield 17, 3) := by decide +kernel
theorem dX4_hasLength_7 : decode cX4_hasLength 7 = .ok (.if_icmp .ge 24, 3) := by decide +kernel
theorem dX4_hasLength_10 : decode cX4_hasLength 10 = .ok (.aload_n 0, 1) := by decide +kernel
theorem dX4_hasLength_11 : decode cX4_hasLength 11 = .ok (.getfield 11, 3) := by decide +kernel
theorem dX4_hasLength_14 : decode cX4_hasLength 14 = .ok (.iload_n 2, 1) := by decide +kernel
theorem dX4_hasLength_15 : decode cX4_hasLength 15 = .ok (.aaload, 1) := by decide +kernel
theorem dX4_hasLength_16 : decode cX4_hasLength 16 = .ok (.invokevirtual 35, 3) := by decide +kernel
theorem dX4_hasLength_19 : decode cX4_hasLength 19 = .ok (.iload_n 1, 1) := by decide +kernel
theorem dX4_hasLength_20 : decode cX4_hasLength 20 = .ok (.if_icmp .lt 5, 3) := by decide +kernel
theorem dX4_hasLength_23 : decode cX4_hasLength 23 = .ok (.iconst 1, 1) := by decide +kernel
theorem dX4_hasLength_24 : decode cX4_hasLength 24 = .ok (.ireturn, 1) := by decide +kernel
theorem dX4_hasLength_25 : decode cX4_hasLength 25 = .ok (.iinc 2 1, 3) := by decide +kernel
theorem dX4_hasLength_28 : decode cX4_hasLength 28 = .ok (.goto (-26), 3) := by decide +kernel
theorem dX4_hasLength_31 : decode cX4_hasLength 31 = .ok (.iconst 0, 1) := by decide +kernel
theorem dX4_hasLength_32 : decode cX4_hasLength 32 = .ok (.ireturn, 1) := by decide +kernel
theorem dX4_add_0 : decode cX4_add 0 = .ok (.aload_n 0, 1) := by decide +kernel
theorem dX4_add_1 : decode cX4_add 1 = .ok (.getfield 11, 3) := by decide +kernel
theorem dX4_add_4 : decode cX4_add 4 = .ok (.aload_n 0, 1) := by decide +kernel
theorem dX4_add_5 : decode cX4_add 5 = .ok (.getfield 17, 3) := by decide +kernel
theorem dX4_add_8 : decode cX4_add 8 = .ok (.aaload, 1) := by decide +kernel
theorem dX4_add_9 : decode cX4_add 9 = .ok (.astore_n 2, 1) := by decide +kernel
theorem dX4_add_10 : decode cX4_add 10 = .ok (.aload_n 2, 1) := by decide +kernel
theorem dX4_add_11 : decode cX4_add 11 = .ok (.aload_n 0, 1) := by decide +kernel
theorem dX4_add_12 : decode cX4_add 12 = .ok (.getfield 21, 3) := by decide +kernel
theorem dX4_add_15 : decode cX4_add 15 = .ok (.putfield 29, 3) := by decide +kernel
theorem dX4_add_18 : decode cX4_add 18 = .ok (.aload_n 2, 1) := by decide +kernel
theorem dX4_add_19 : decode cX4_add 19 = .ok (.iload_n 1, 1) := by decide +kernel
theorem dX4_add_20 : decode cX4_add 20 = .ok (.putfield 32, 3) := by decide +kernel
theorem dX4_add_23 : decode cX4_add 23 = .ok (.aload_n 2, 1) := by decide +kernel
theorem dX4_add_24 : decode cX4_add 24 = .ok (.iconst 0, 1) := by decide +kernel
theorem dX4_add_25 : decode cX4_add 25 = .ok (.putfield 39, 3) := by decide +kernel
theorem dX4_add_28 : decode cX4_add 28 = .ok (.aload_n 0, 1) := by decide +kernel
theorem dX4_add_29 : decode cX4_add 29 = .ok (.dup, 1) := by decide +kernel
theorem dX4_add_30 : decode cX4_add 30 = .ok (.getfield 17, 3) := by decide +kernel
theorem dX4_add_33 : decode cX4_add 33 = .ok (.iconst 1, 1) := by decide +kernel
theorem dX4_add_34 : decode cX4_add 34 = .ok (.iadd, 1) := by decide +kernel
theorem dX4_add_35 : decode cX4_add 35 = .ok (.putfield 17, 3) := by decide +kernel
theorem dX4_add_38 : decode cX4_add 38 = .ok (.aload_n 0, 1) := by decide +kernel
theorem dX4_add_39 : decode cX4_add 39 = .ok (.dup, 1) := by decide +kernel
theorem dX4_add_40 : decode cX4_add 40 = .ok (.getfield 21, 3) := by decide +kernel
theorem dX4_add_43 : decode cX4_add 43 = .ok (.iconst 1, 1) := by decide +kernel
theorem dX4_add_44 : decode cX4_add 44 = .ok (.iadd, 1) := by decide +kernel
theorem dX4_add_45 : decode cX4_add 45 = .ok (.putfield 21, 3) := by decide +kernel
theorem dX4_add_48 : decode cX4_add 48 = .ok (.aload_n 0, 1) := by decide +kernel
theorem dX4_add_49 : decode cX4_add 49 = .ok (.aload_n 0, 1) := by decide +kernel
theorem dX4_add_50 : decode cX4_add 50 = .ok (.getfield 17, 3) := by decide +kernel
theorem dX4_add_53 : decode cX4_add 53 = .ok (.iconst 1, 1) := by decide +kernel
theorem dX4_add_54 : decode cX4_add 54 = .ok (.isub, 1) := by decide +kernel
theorem dX4_add_55 : decode cX4_add 55 = .ok (.invokevirtual 42, 3) := by decide +kernel
theorem dX4_add_58 : decode cX4_add 58 = .ok (.aload_n 2, 1) := by decide +kernel
theorem dX4_add_59 : decode cX4_add 59 = .ok (.getfield 29, 3) := by decide +kernel
theorem dX4_add_62 : decode cX4_add 62 = .ok (.ireturn, 1) := by decide +kernel
theorem dX4_moveAt_0 : decode cX4_moveAt 0 = .ok (.aload_n 0, 1) := by decide +kernel
theorem dX4_moveAt_1 : decode cX4_moveAt 1 = .ok (.getfield 11, 3) := by decide +kernel
theorem dX4_moveAt_4 : decode cX4_moveAt 4 = .ok (.iload_n 1, 1) := by decide +kernel
theorem dX4_moveAt_5 : decode cX4_moveAt 5 = .ok (.aaload, 1) := by decide +kernel
theorem dX4_moveAt_6 : decode cX4_moveAt 6 = .ok (.getfield 32, 3) := by decide +kernel
theorem dX4_moveAt_9 : decode cX4_moveAt 9 = .ok (.istore_n 3, 1) := by decide +kernel
theorem dX4_moveAt_10 : decode cX4_moveAt 10 = .ok (.aload_n 0, 1) := by decide +kernel
theorem dX4_moveAt_11 : decode cX4_moveAt 11 = .ok (.getfield 11, 3) := by decide +kernel
theorem dX4_moveAt_14 : decode cX4_moveAt 14 = .ok (.iload_n 1, 1) := by decide +kernel
theorem dX4_moveAt_15 : decode cX4_moveAt 15 = .ok (.aaload, 1) := by decide +kernel
theorem dX4_moveAt_16 : decode cX4_moveAt 16 = .ok (.iload_n 2, 1) := by decide +kernel
theorem dX4_moveAt_17 : decode cX4_moveAt 17 = .ok (.putfield 32, 3) := by decide +kernel
theorem dX4_moveAt_20 : decode cX4_moveAt 20 = .ok (.aload_n 0, 1) := by decide +kernel
theorem dX4_moveAt_21 : decode cX4_moveAt 21 = .ok (.iload_n 1, 1) := by decide +kernel
theorem dX4_moveAt_22 : decode cX4_moveAt 22 = .ok (.invokevirtual 42, 3) := by decide +kernel
theorem dX4_moveAt_25 : decode cX4_moveAt 25 = .ok (.iload_n 3, 1) := by decide +kernel
theorem dX4_moveAt_26 : decode cX4_moveAt 26 = .ok (.ireturn, 1) := by decide +kernel
theorem dX4_removeAt_0 : decode cX4_removeAt 0 = .ok (.aload_n 0, 1) := by decide +kernel
theorem dX4_removeAt_1 : decode cX4_removeAt 1 = .ok (.getfield 11, 3) := by decide +kernel
theorem dX4_removeAt_4 : decode cX4_removeAt 4 = .ok (.iload_n 1, 1) := by decide +kernel
theorem dX4_removeAt_5 : decode cX4_removeAt 5 = .ok (.aaload, 1) := by decide +kernel
theorem dX4_removeAt_6 : decode cX4_removeAt 6 = .ok (.astore_n 2, 1) := by decide +kernel
theorem dX4_removeAt_7 : decode cX4_removeAt 7 = .ok (.iload_n 1, 1) := by decide +kernel
theorem dX4_removeAt_8 : decode cX4_removeAt 8 = .ok (.istore_n 3, 1) := by decide +kernel
theorem dX4_removeAt_9 : decode cX4_removeAt 9 = .ok (.iload_n 3, 1) := by decide +kernel
theorem dX4_removeAt_10 : decode cX4_removeAt 10 = .ok (.aload_n 0, 1) := by decide +kernel
theorem dX4_removeAt_11 : decode cX4_removeAt 11 = .ok (.getfield 17, 3) := by decide +kernel
theorem dX4_removeAt_14 : decode cX4_removeAt 14 = .ok (.iconst 1, 1) := by decide +kernel
theorem dX4_removeAt_15 : decode cX4_removeAt 15 = .ok (.isub, 1) := by decide +kernel
theorem dX4_removeAt_16 : decode cX4_removeAt 16 = .ok (.if_icmp .ge 23, 3) := by decide +kernel
theorem dX4_removeAt_19 : decode cX4_removeAt 19 = .ok (.aload_n 0, 1) := by decide +kernel
theorem dX4_removeAt_20 : decode cX4_removeAt 20 = .ok (.getfield 11, 3) := by decide +kernel
theorem dX4_removeAt_23 : decode cX4_removeAt 23 = .ok (.iload_n 3, 1) := by decide +kernel
theorem dX4_removeAt_24 : decode cX4_removeAt 24 = .ok (.aload_n 0, 1) := by decide +kernel
theorem dX4_removeAt_25 : decode cX4_removeAt 25 = .ok (.getfield 11, 3) := by decide +kernel
theorem dX4_removeAt_28 : decode cX4_removeAt 28 = .ok (.iload_n 3, 1) := by decide +kernel
theorem dX4_removeAt_29 : decode cX4_removeAt 29 = .ok (.iconst 1, 1) := by decide +kernel
theorem dX4_removeAt_30 : decode cX4_removeAt 30 = .ok (.iadd, 1) := by decide +kernel
theorem dX4_removeAt_31 : decode cX4_removeAt 31 = .ok (.aaload, 1) := by decide +kernel
theorem dX4_removeAt_32 : decode cX4_removeAt 32 = .ok (.aastore, 1) := by decide +kernel
theorem dX4_removeAt_33 : decode cX4_removeAt 33 = .ok (.iinc 3 1, 3) := by decide +kernel
theorem dX4_removeAt_36 : decode cX4_removeAt 36 = .ok (.goto (-27), 3) := by decide +kernel
theorem dX4_removeAt_39 : decode cX4_removeAt 39 = .ok (.aload_n 0, 1) := by decide +kernel
theorem dX4_removeAt_40 : decode cX4_removeAt 40 = .ok (.dup, 1) := by decide +kernel
theorem dX4_removeAt_41 : decode cX4_removeAt 41 = .ok (.getfield 17, 3) := by decide +kernel
theorem dX4_removeAt_44 : decode cX4_removeAt 44 = .ok (.iconst 1, 1) := by decide +kernel
theorem dX4_removeAt_45 : decode cX4_removeAt 45 = .ok (.isub, 1) := by decide +kernel
theorem dX4_removeAt_46 : decode cX4_removeAt 46 = .ok (.putfield 17, 3) := by decide +kernel
theorem dX4_removeAt_49 : decode cX4_removeAt 49 = .ok (.aload_n 0, 1) := by decide +kernel
theorem dX4_removeAt_50 : decode cX4_removeAt 50 = .ok (.getfield 11, 3) := by decide +kernel
theorem dX4_removeAt_53 : decode cX4_removeAt 53 = .ok (.aload_n 0, 1) := by decide +kernel
theorem dX4_removeAt_54 : decode cX4_removeAt 54 = .ok (.getfield 17, 3) := by decide +kernel
theorem dX4_removeAt_57 : decode cX4_removeAt 57 = .ok (.aload_n 2, 1) := by decide +kernel
theorem dX4_removeAt_58 : decode cX4_removeAt 58 = .ok (.aastore, 1) := by decide +kernel
theorem dX4_removeAt_59 : decode cX4_removeAt 59 = .ok (.aload_n 2, 1) := by decide +kernel
theorem dX4_removeAt_60 : decode cX4_removeAt 60 = .ok (.getfield 32, 3) := by decide +kernel
theorem dX4_removeAt_63 : decode cX4_removeAt 63 = .ok (.ireturn, 1) := by decide +kernel
theorem dX4_settle_0 : decode cX4_settle 0 = .ok (.aload_n 0, 1) := by decide +kernel
theorem dX4_settle_1 : decode cX4_settle 1 = .ok (.getfield 11, 3) := by decide +kernel
theorem dX4_settle_4 : decode cX4_settle 4 = .ok (.iload_n 1, 1) := by decide +kernel
theorem dX4_settle_5 : decode cX4_settle 5 = .ok (.aaload, 1) := by decide +kernel
theorem dX4_settle_6 : decode cX4_settle 6 = .ok (.astore_n 2, 1) := by decide +kernel
theorem dX4_settle_7 : decode cX4_settle 7 = .ok (.iload_n 1, 1) := by decide +kernel
theorem dX4_settle_8 : decode cX4_settle 8 = .ok (.istore_n 3, 1) := by decide +kernel
theorem dX4_settle_9 : decode cX4_settle 9 = .ok (.iload_n 3, 1) := by decide +kernel
theorem dX4_settle_10 : decode cX4_settle 10 = .ok (.ifCond .le 38, 3) := by decide +kernel
theorem dX4_settle_13 : decode cX4_settle 13 = .ok (.aload_n 2, 1) := by decide +kernel
theorem dX4_settle_14 : decode cX4_settle 14 = .ok (.aload_n 0, 1) := by decide +kernel
theorem dX4_settle_15 : decode cX4_settle 15 = .ok (.getfield 11, 3) := by decide +kernel
theorem dX4_settle_18 : decode cX4_settle 18 = .ok (.iload_n 3, 1) := by decide +kernel
theorem dX4_settle_19 : decode cX4_settle 19 = .ok (.iconst 1, 1) := by decide +kernel
theorem dX4_settle_20 : decode cX4_settle 20 = .ok (.isub, 1) := by decide +kernel
theorem dX4_settle_21 : decode cX4_settle 21 = .ok (.aaload, 1) := by decide +kernel
theorem dX4_settle_22 : decode cX4_settle 22 = .ok (.invokevirtual 46, 3) := by decide +kernel
theorem dX4_settle_25 : decode cX4_settle 25 = .ok (.ifCond .eq 23, 3) := by decide +kernel
theorem dX4_settle_28 : decode cX4_settle 28 = .ok (.aload_n 0, 1) := by decide +kernel
theorem dX4_settle_29 : decode cX4_settle 29 = .ok (.getfield 11, 3) := by decide +kernel
theorem dX4_settle_32 : decode cX4_settle 32 = .ok (.iload_n 3, 1) := by decide +kernel
theorem dX4_settle_33 : decode cX4_settle 33 = .ok (.aload_n 0, 1) := by decide +kernel
theorem dX4_settle_34 : decode cX4_settle 34 = .ok (.getfield 11, 3) := by decide +kernel
theorem dX4_settle_37 : decode cX4_settle 37 = .ok (.iload_n 3, 1) := by decide +kernel
theorem dX4_settle_38 : decode cX4_settle 38 = .ok (.iconst 1, 1) := by decide +kernel
theorem dX4_settle_39 : decode cX4_settle 39 = .ok (.isub, 1) := by decide +kernel
theorem dX4_settle_40 : decode cX4_settle 40 = .ok (.aaload, 1) := by decide +kernel
theorem dX4_settle_41 : decode cX4_settle 41 = .ok (.aastore, 1) := by decide +kernel
theorem dX4_settle_42 : decode cX4_settle 42 = .ok (.iinc 3 (-1), 3) := by decide +kernel
theorem dX4_settle_45 : decode cX4_settle 45 = .ok (.goto (-36), 3) := by decide +kernel
theorem dX4_settle_48 : decode cX4_settle 48 = .ok (.iload_n 3, 1) := by decide +kernel
theorem dX4_settle_49 : decode cX4_settle 49 = .ok (.aload_n 0, 1) := by decide +kernel
theorem dX4_settle_50 : decode cX4_settle 50 = .ok (.getfield 17, 3) := by decide +kernel
theorem dX4_settle_53 : decode cX4_settle 53 = .ok (.iconst 1, 1) := by decide +kernel
theorem dX4_settle_54 : decode cX4_settle 54 = .ok (.isub, 1) := by decide +kernel
theorem dX4_settle_55 : decode cX4_settle 55 = .ok (.if_icmp .ge 38, 3) := by decide +kernel
theorem dX4_settle_58 : decode cX4_settle 58 = .ok (.aload_n 0, 1) := by decide +kernel
theorem dX4_settle_59 : decode cX4_settle 59 = .ok (.getfield 11, 3) := by decide +kernel
theorem dX4_settle_62 : decode cX4_settle 62 = .ok (.iload_n 3, 1) := by decide +kernel
theorem dX4_settle_63 : decode cX4_settle 63 = .ok (.iconst 1, 1) := by decide +kernel
theorem dX4_settle_64 : decode cX4_settle 64 = .ok (.iadd, 1) := by decide +kernel
theorem dX4_settle_65 : decode cX4_settle 65 = .ok (.aaload, 1) := by decide +kernel
theorem dX4_settle_66 : decode cX4_settle 66 = .ok (.aload_n 2, 1) := by decide +kernel
theorem dX4_settle_67 : decode cX4_settle 67 = .ok (.invokevirtual 46, 3) := by decide +kernel
theorem dX4_settle_70 : decode cX4_settle 70 = .ok (.ifCond .eq 23, 3) := by decide +kernel
theorem dX4_settle_73 : decode cX4_settle 73 = .ok (.aload_n 0, 1) := by decide +kernel
theorem dX4_settle_74 : decode cX4_settle 74 = .ok (.getfield 11, 3) := by decide +kernel
theorem dX4_settle_77 : decode cX4_settle 77 = .ok (.iload_n 3, 1) := by decide +kernel
theorem dX4_settle_78 : decode cX4_settle 78 = .ok (.aload_n 0, 1) := by decide +kernel
theorem dX4_settle_79 : decode cX4_settle 79 = .ok (.getfield 11, 3) := by decide +kernel
theorem dX4_settle_82 : decode cX4_settle 82 = .ok (.iload_n 3, 1) := by decide +kernel
theorem dX4_settle_83 : decode cX4_settle 83 = .ok (.iconst 1, 1) := by decide +kernel
theorem dX4_settle_84 : decode cX4_settle 84 = .ok (.iadd, 1) := by decide +kernel
theorem dX4_settle_85 : decode cX4_settle 85 = .ok (.aaload, 1) := by decide +kernel
theorem dX4_settle_86 : decode cX4_settle 86 = .ok (.aastore, 1) := by decide +kernel
theorem dX4_settle_87 : decode cX4_settle 87 = .ok (.iinc 3 1, 3) := by decide +kernel
theorem dX4_settle_90 : decode cX4_settle 90 = .ok (.goto (-42), 3) := by decide +kernel
theorem dX4_settle_93 : decode cX4_settle 93 = .ok (.aload_n 0, 1) := by decide +kernel
theorem dX4_settle_94 : decode cX4_settle 94 = .ok (.getfield 11, 3) := by decide +kernel
theorem dX4_settle_97 : decode cX4_settle 97 = .ok (.iload_n 3, 1) := by decide +kernel
theorem dX4_settle_98 : decode cX4_settle 98 = .ok (.aload_n 2, 1) := by decide +kernel
theorem dX4_settle_99 : decode cX4_settle 99 = .ok (.aastore, 1) := by decide +kernel
theorem dX4_settle_100 : decode cX4_settle 100 = .ok (.return_, 1) := by decide +kernel
theorem dX5_init_0 : decode cX5_init 0 = .ok (.aload_n 0, 1) := by decide +kernel
theorem dX5_init_1 : decode cX5_init 1 = .ok (.invokespecial 1, 3) := by decide +kernel
theorem dX5_init_4 : decode cX5_init 4 = .ok (.aload_n 0, 1) := by decide +kernel
theorem dX5_init_5 : decode cX5_init 5 = .ok (.iconst 0, 1) := by decide +kernel
theorem dX5_init_6 : decode cX5_init 6 = .ok (.putfield 7, 3) := by decide +kernel
theorem dX5_init_9 : decode cX5_init 9 = .ok (.aload_n 0, 1) := by decide +kernel
theorem dX5_init_10 : decode cX5_init 10 = .ok (.new 13, 3) := by decide +kernel
theorem dX5_init_13 : decode cX5_init 13 = .ok (.dup, 1) := by decide +kernel
theorem dX5_init_14 : decode cX5_init 14 = .ok (.invokespecial 15, 3) := by decide +kernel
theorem dX5_init_17 : decode cX5_init 17 = .ok (.putfield 16, 3) := by decide +kernel
theorem dX5_init_20 : decode cX5_init 20 = .ok (.aload_n 0, 1) := by decide +kernel
theorem dX5_init_21 : decode cX5_init 21 = .ok (.new 20, 3) := by decide +kernel
theorem dX5_init_24 : decode cX5_init 24 = .ok (.dup, 1) := by decide +kernel
theorem dX5_init_25 : decode cX5_init 25 = .ok (.invokespecial 22, 3) := by decide +kernel
theorem dX5_init_28 : decode cX5_init 28 = .ok (.putfield 23, 3) := by decide +kernel
theorem dX5_init_31 : decode cX5_init 31 = .ok (.aload_n 0, 1) := by decide +kernel
theorem dX5_init_32 : decode cX5_init 32 = .ok (.new 27, 3) := by decide +kernel
theorem dX5_init_35 : decode cX5_init 35 = .ok (.dup, 1) := by decide +kernel
theorem dX5_init_36 : decode cX5_init 36 = .ok (.invokespecial 29, 3) := by decide +kernel
theorem dX5_init_39 : decode cX5_init 39 = .ok (.putfield 30, 3) := by decide +kernel
theorem dX5_init_42 : decode cX5_init 42 = .ok (.aload_n 0, 1) := by decide +kernel
theorem dX5_init_43 : decode cX5_init 43 = .ok (.new 34, 3) := by decide +kernel
theorem dX5_init_46 : decode cX5_init 46 = .ok (.dup, 1) := by decide +kernel
theorem dX5_init_47 : decode cX5_init 47 = .ok (.invokespecial 36, 3) := by decide +kernel
theorem dX5_init_50 : decode cX5_init 50 = .ok (.putfield 37, 3) := by decide +kernel
theorem dX5_init_53 : decode cX5_init 53 = .ok (.return_, 1) := by decide +kernel
theorem dX5_copyFrom_0 : decode cX5_copyFrom 0 = .ok (.aload_n 0, 1) := by decide +kernel
theorem dX5_copyFrom_1 : decode cX5_copyFrom 1 = .ok (.aload_n 1, 1) := by decide +kernel
theorem dX5_copyFrom_2 : decode cX5_copyFrom 2 = .ok (.getfield 7, 3) := by decide +kernel
theorem dX5_copyFrom_5 : decode cX5_copyFrom 5 = .ok (.putfield 7, 3) := by decide +kernel
theorem dX5_copyFrom_8 : decode cX5_copyFrom 8 = .ok (.aload_n 0, 1) := by decide +kernel
theorem dX5_copyFrom_9 : decode cX5_copyFrom 9 = .ok (.getfield 16, 3) := by decide +kernel
theorem dX5_copyFrom_12 : decode cX5_copyFrom 12 = .ok (.aload_n 1, 1) := by decide +kernel
theorem dX5_copyFrom_13 : decode cX5_copyFrom 13 = .ok (.getfield 16, 3) := by decide +kernel
theorem dX5_copyFrom_16 : decode cX5_copyFrom 16 = .ok (.invokevirtual 41, 3) := by decide +kernel
theorem dX5_copyFrom_19 : decode cX5_copyFrom 19 = .ok (.aload_n 0, 1) := by decide +kernel
theorem dX5_copyFrom_20 : decode cX5_copyFrom 20 = .ok (.getfield 23, 3) := by decide +kernel
theorem dX5_copyFrom_23 : decode cX5_copyFrom 23 = .ok (.aload_n 1, 1) := by decide +kernel
theorem dX5_copyFrom_24 : decode cX5_copyFrom 24 = .ok (.getfield 23, 3) := by decide +kernel
theorem dX5_copyFrom_27 : decode cX5_copyFrom 27 = .ok (.invokevirtual 45, 3) := by decide +kernel
theorem dX5_copyFrom_30 : decode cX5_copyFrom 30 = .ok (.aload_n 0, 1) := by decide +kernel
theorem dX5_copyFrom_31 : decode cX5_copyFrom 31 = .ok (.getfield 30, 3) := by decide +kernel
theorem dX5_copyFrom_34 : decode cX5_copyFrom 34 = .ok (.aload_n 1, 1) := by decide +kernel
theorem dX5_copyFrom_35 : decode cX5_copyFrom 35 = .ok (.getfield 30, 3) := by decide +kernel
theorem dX5_copyFrom_38 : decode cX5_copyFrom 38 = .ok (.invokevirtual 48, 3) := by decide +kernel
theorem dX5_copyFrom_41 : decode cX5_copyFrom 41 = .ok (.aload_n 0, 1) := by decide +kernel
theorem dX5_copyFrom_42 : decode cX5_copyFrom 42 = .ok (.getfield 37, 3) := by decide +kernel
theorem dX5_copyFrom_45 : decode cX5_copyFrom 45 = .ok (.aload_n 1, 1) := by decide +kernel
theorem dX5_copyFrom_46 : decode cX5_copyFrom 46 = .ok (.getfield 37, 3) := by decide +kernel
theorem dX5_copyFrom_49 : decode cX5_copyFrom 49 = .ok (.invokevirtual 51, 3) := by decide +kernel
theorem dX5_copyFrom_52 : decode cX5_copyFrom 52 = .ok (.return_, 1) := by decide +kernel
theorem dX5_addZoneMinutes_0 : decode cX5_addZoneMinutes 0 = .ok (.aload_n 0, 1) := by decide +kernel
theorem dX5_addZoneMinutes_1 : decode cX5_addZoneMinutes 1 = .ok (.getfield 16, 3) := by decide +kernel
theorem dX5_addZoneMinutes_4 : decode cX5_addZoneMinutes 4 = .ok (.aload_n 1, 1) := by decide +kernel
theorem dX5_addZoneMinutes_5 : decode cX5_addZoneMinutes 5 = .ok (.getfield 54, 3) := by decide +kernel
theorem dX5_addZoneMinutes_8 : decode cX5_addZoneMinutes 8 = .ok (.invokevirtual 59, 3) := by decide +kernel
theorem dX5_addZoneMinutes_11 : decode cX5_addZoneMinutes 11 = .ok (.istore_n 3, 1) := by decide +kernel
theorem dX5_addZoneMinutes_12 : decode cX5_addZoneMinutes 12 = .ok (.iconst 0, 1) := by decide +kernel
theorem dX5_addZoneMinutes_13 : decode cX5_addZoneMinutes 13 = .ok (.istore 4, 2) := by decide +kernel
theorem dX5_addZoneMinutes_15 : decode cX5_addZoneMinutes 15 = .ok (.iload 4, 2) := by decide +kernel
theorem dX5_addZoneMinutes_17 : decode cX5_addZoneMinutes 17 = .ok (.aload_n 1, 1) := by decide +kernel
theorem dX5_addZoneMinutes_18 : decode cX5_addZoneMinutes 18 = .ok (.getfield 63, 3) := by decide +kernel
theorem dX5_addZoneMinutes_21 : decode cX5_addZoneMinutes 21 = .ok (.if_icmp .ge 36, 3) := by decide +kernel
theorem dX5_addZoneMinutes_24 : decode cX5_addZoneMinutes 24 = .ok (.aload_n 2, 1) := by decide +kernel
theorem dX5_addZoneMinutes_25 : decode cX5_addZoneMinutes 25 = .ok (.aload_n 0, 1) := by decide +kernel
theorem dX5_addZoneMinutes_26 : decode cX5_addZoneMinutes 26 = .ok (.getfield 23, 3) := by decide +kernel
theorem dX5_addZoneMinutes_29 : decode cX5_addZoneMinutes 29 = .ok (.aload_n 1, 1) := by decide +kernel
theorem dX5_addZoneMinutes_30 : decode cX5_addZoneMinutes 30 = .ok (.getfield 66, 3) := by decide +kernel
theorem dX5_addZoneMinutes_33 : decode cX5_addZoneMinutes 33 = .ok (.iload 4, 2) := by decide +kernel
theorem dX5_addZoneMinutes_35 : decode cX5_addZoneMinutes 35 = .ok (.iaload, 1) := by decide +kernel
theorem dX5_addZoneMinutes_36 : decode cX5_addZoneMinutes 36 = .ok (.iload_n 3, 1) := by decide +kernel
theorem dX5_addZoneMinutes_37 : decode cX5_addZoneMinutes 37 = .ok (.invokevirtual 70, 3) := by decide +kernel
theorem dX5_addZoneMinutes_40 : decode cX5_addZoneMinutes 40 = .ok (.dup2, 1) := by decide +kernel
theorem dX5_addZoneMinutes_41 : decode cX5_addZoneMinutes 41 = .ok (.iaload, 1) := by decide +kernel
theorem dX5_addZoneMinutes_42 : decode cX5_addZoneMinutes 42 = .ok (.aload_n 1, 1) := by decide +kernel
theorem dX5_addZoneMinutes_43 : decode cX5_addZoneMinutes 43 = .ok (.getfield 74, 3) := by decide +kernel
theorem dX5_addZoneMinutes_46 : decode cX5_addZoneMinutes 46 = .ok (.iload 4, 2) := by decide +kernel
theorem dX5_addZoneMinutes_48 : decode cX5_addZoneMinutes 48 = .ok (.iaload, 1) := by decide +kernel
theorem dX5_addZoneMinutes_49 : decode cX5_addZoneMinutes 49 = .ok (.iadd, 1) := by decide +kernel
theorem dX5_addZoneMinutes_50 : decode cX5_addZoneMinutes 50 = .ok (.iastore, 1) := by decide +kernel
theorem dX5_addZoneMinutes_51 : decode cX5_addZoneMinutes 51 = .ok (.iinc 4 1, 3) := by decide +kernel
theorem dX5_addZoneMinutes_54 : decode cX5_addZoneMinutes 54 = .ok (.goto (-39), 3) := by decide +kernel
theorem dX5_addZoneMinutes_57 : decode cX5_addZoneMinutes 57 = .ok (.return_, 1) := by decide +kernel
theorem dX5_sessionLoad_0 : decode cX5_sessionLoad 0 = .ok (.aload_n 0, 1) := by decide +kernel
theorem dX5_sessionLoad_1 : decode cX5_sessionLoad 1 = .ok (.getfield 16, 3) := by decide +kernel
theorem dX5_sessionLoad_4 : decode cX5_sessionLoad 4 = .ok (.aload_n 1, 1) := by decide +kernel
theorem dX5_sessionLoad_5 : decode cX5_sessionLoad 5 = .ok (.getfield 54, 3) := by decide +kernel
theorem dX5_sessionLoad_8 : decode cX5_sessionLoad 8 = .ok (.invokevirtual 59, 3) := by decide +kernel
theorem dX5_sessionLoad_11 : decode cX5_sessionLoad 11 = .ok (.istore_n 2, 1) := by decide +kernel
theorem dX5_sessionLoad_12 : decode cX5_sessionLoad 12 = .ok (.iconst 0, 1) := by decide +kernel
theorem dX5_sessionLoad_13 : decode cX5_sessionLoad 13 = .ok (.istore_n 3, 1) := by decide +kernel
theorem dX5_sessionLoad_14 : decode cX5_sessionLoad 14 = .ok (.iconst 0, 1) := by decide +kernel
theorem dX5_sessionLoad_15 : decode cX5_sessionLoad 15 = .ok (.istore 4, 2) := by decide +kernel
theorem dX5_sessionLoad_17 : decode cX5_sessionLoad 17 = .ok (.iload 4, 2) := by decide +kernel
theorem dX5_sessionLoad_19 : decode cX5_sessionLoad 19 = .ok (.aload_n 1, 1) := by decide +kernel
theorem dX5_sessionLoad_20 : decode cX5_sessionLoad 20 = .ok (.getfield 63, 3) := by decide +kernel
theorem dX5_sessionLoad_23 : decode cX5_sessionLoad 23 = .ok (.if_icmp .ge 47, 3) := by decide +kernel
theorem dX5_sessionLoad_26 : decode cX5_sessionLoad 26 = .ok (.aload_n 0, 1) := by decide +kernel
theorem dX5_sessionLoad_27 : decode cX5_sessionLoad 27 = .ok (.getfield 23, 3) := by decide +kernel
theorem dX5_sessionLoad_30 : decode cX5_sessionLoad 30 = .ok (.aload_n 1, 1) := by decide +kernel
theorem dX5_sessionLoad_31 : decode cX5_sessionLoad 31 = .ok (.getfield 66, 3) := by decide +kernel
theorem dX5_sessionLoad_34 : decode cX5_sessionLoad 34 = .ok (.iload 4, 2) := by decide +kernel
theorem dX5_sessionLoad_36 : decode cX5_sessionLoad 36 = .ok (.iaload, 1) := by decide +kernel
theorem dX5_sessionLoad_37 : decode cX5_sessionLoad 37 = .ok (.iload_n 2, 1) := by decide +kernel
theorem dX5_sessionLoad_38 : decode cX5_sessionLoad 38 = .ok (.invokevirtual 70, 3) := by decide +kernel
theorem dX5_sessionLoad_41 : decode cX5_sessionLoad 41 = .ok (.istore 5, 2) := by decide +kernel
theorem dX5_sessionLoad_43 : decode cX5_sessionLoad 43 = .ok (.iload_n 3, 1) := by decide +kernel
theorem dX5_sessionLoad_44 : decode cX5_sessionLoad 44 = .ok (.aload_n 1, 1) := by decide +kernel
theorem dX5_sessionLoad_45 : decode cX5_sessionLoad 45 = .ok (.getfield 74, 3) := by decide +kernel
theorem dX5_sessionLoad_48 : decode cX5_sessionLoad 48 = .ok (.iload 4, 2) := by decide +kernel
theorem dX5_sessionLoad_50 : decode cX5_sessionLoad 50 = .ok (.iaload, 1) := by decide +kernel
theorem dX5_sessionLoad_51 : decode cX5_sessionLoad 51 = .ok (.aload_n 0, 1) := by decide +kernel
theorem dX5_sessionLoad_52 : decode cX5_sessionLoad 52 = .ok (.getfield 23, 3) := by decide +kernel
theorem dX5_sessionLoad_55 : decode cX5_sessionLoad 55 = .ok (.getfield 77, 3) := by decide +kernel
theorem dX5_sessionLoad_58 : decode cX5_sessionLoad 58 = .ok (.iload 5, 2) := by decide +kernel
theorem dX5_sessionLoad_60 : decode cX5_sessionLoad 60 = .ok (.iaload, 1) := by decide +kernel
theorem dX5_sessionLoad_61 : decode cX5_sessionLoad 61 = .ok (.imul, 1) := by decide +kernel
theorem dX5_sessionLoad_62 : decode cX5_sessionLoad 62 = .ok (.iadd, 1) := by decide +kernel
theorem dX5_sessionLoad_63 : decode cX5_sessionLoad 63 = .ok (.istore_n 3, 1) := by decide +kernel
theorem dX5_sessionLoad_64 : decode cX5_sessionLoad 64 = .ok (.iinc 4 1, 3) := by decide +kernel
theorem dX5_sessionLoad_67 : decode cX5_sessionLoad 67 = .ok (.goto (-50), 3) := by decide +kernel
theorem dX5_sessionLoad_70 : decode cX5_sessionLoad 70 = .ok (.iload_n 3, 1) := by decide +kernel
theorem dX5_sessionLoad_71 : decode cX5_sessionLoad 71 = .ok (.ireturn, 1) := by decide +kernel
theorem dX5_fillSessionLoads_0 : decode cX5_fillSessionLoads 0 = .ok (.iconst 0, 1) := by decide +kernel
theorem dX5_fillSessionLoads_1 : decode cX5_fillSessionLoads 1 = .ok (.istore_n 2, 1) := by decide +kernel
theorem dX5_fillSessionLoads_2 : decode cX5_fillSessionLoads 2 = .ok (.iload_n 2, 1) := by decide +kernel
theorem dX5_fillSessionLoads_3 : decode cX5_fillSessionLoads 3 = .ok (.aload_n 0, 1) := by decide +kernel
theorem dX5_fillSessionLoads_4 : decode cX5_fillSessionLoads 4 = .ok (.getfield 30, 3) := by decide +kernel
theorem dX5_fillSessionLoads_7 : decode cX5_fillSessionLoads 7 = .ok (.getfield 80, 3) := by decide +kernel
theorem dX5_fillSessionLoads_10 : decode cX5_fillSessionLoads 10 = .ok (.if_icmp .ge 25, 3) := by decide +kernel
theorem dX5_fillSessionLoads_13 : decode cX5_fillSessionLoads 13 = .ok (.aload_n 1, 1) := by decide +kernel
theorem dX5_fillSessionLoads_14 : decode cX5_fillSessionLoads 14 = .ok (.iload_n 2, 1) := by decide +kernel
theorem dX5_fillSessionLoads_15 : decode cX5_fillSessionLoads 15 = .ok (.aload_n 0, 1) := by decide +kernel
theorem dX5_fillSessionLoads_16 : decode cX5_fillSessionLoads 16 = .ok (.aload_n 0, 1) := by decide +kernel
theorem dX5_fillSessionLoads_17 : decode cX5_fillSessionLoads 17 = .ok (.getfield 30, 3) := by decide +kernel
theorem dX5_fillSessionLoads_20 : decode cX5_fillSessionLoads 20 = .ok (.getfield 83, 3) := by decide +kernel
theorem dX5_fillSessionLoads_23 : decode cX5_fillSessionLoads 23 = .ok (.iload_n 2, 1) := by decide +kernel
theorem dX5_fillSessionLoads_24 : decode cX5_fillSessionLoads 24 = .ok (.aaload, 1) := by decide +kernel
theorem dX5_fillSessionLoads_25 : decode cX5_fillSessionLoads 25 = .ok (.invokevirtual 87, 3) := by decide +kernel
theorem dX5_fillSessionLoads_28 : decode cX5_fillSessionLoads 28 = .ok (.iastore, 1) := by decide +kernel
theorem dX5_fillSessionLoads_29 : decode cX5_fillSessionLoads 29 = .ok (.iinc 2 1, 3) := by decide +kernel
theorem dX5_fillSessionLoads_32 : decode cX5_fillSessionLoads 32 = .ok (.goto (-30), 3) := by decide +kernel
theorem dX5_fillSessionLoads_35 : decode cX5_fillSessionLoads 35 = .ok (.return_, 1) := by decide +kernel
theorem dX5_countChangedLoads_0 : decode cX5_countChangedLoads 0 = .ok (.iconst 0, 1) := by decide +kernel
theorem dX5_countChangedLoads_1 : decode cX5_countChangedLoads 1 = .ok (.istore_n 2, 1) := by decide +kernel
theorem dX5_countChangedLoads_2 : decode cX5_countChangedLoads 2 = .ok (.iconst 0, 1) := by decide +kernel
theorem dX5_countChangedLoads_3 : decode cX5_countChangedLoads 3 = .ok (.istore_n 3, 1) := by decide +kernel
theorem dX5_countChangedLoads_4 : decode cX5_countChangedLoads 4 = .ok (.iload_n 3, 1) := by decide +kernel
theorem dX5_countChangedLoads_5 : decode cX5_countChangedLoads 5 = .ok (.aload_n 0, 1) := by decide +kernel
theorem dX5_countChangedLoads_6 : decode cX5_countChangedLoads 6 = .ok (.getfield 30, 3) := by decide +kernel
theorem dX5_countChangedLoads_9 : decode cX5_countChangedLoads 9 = .ok (.getfield 80, 3) := by decide +kernel
theorem dX5_countChangedLoads_12 : decode cX5_countChangedLoads 12 = .ok (.if_icmp .ge 31, 3) := by decide +kernel
theorem dX5_countChangedLoads_15 : decode cX5_countChangedLoads 15 = .ok (.aload_n 0, 1) := by decide +kernel
theorem dX5_countChangedLoads_16 : decode cX5_countChangedLoads 16 = .ok (.aload_n 0, 1) := by decide +kernel
theorem dX5_countChangedLoads_17 : decode cX5_countChangedLoads 17 = .ok (.getfield 30, 3) := by decide +kernel
theorem dX5_countChangedLoads_20 : decode cX5_countChangedLoads 20 = .ok (.getfield 83, 3) := by decide +kernel
theorem dX5_countChangedLoads_23 : decode cX5_countChangedLoads 23 = .ok (.iload_n 3, 1) := by decide +kernel
theorem dX5_countChangedLoads_24 : decode cX5_countChangedLoads 24 = .ok (.aaload, 1) := by decide +kernel
theorem dX5_countChangedLoads_25 : decode cX5_countChangedLoads 25 = .ok (.invokevirtual 87, 3) := by decide +kernel
theorem dX5_countChangedLoads_28 : decode cX5_countChangedLoads 28 = .ok (.aload_n 1, 1) := by decide +kernel
theorem dX5_countChangedLoads_29 : decode cX5_countChangedLoads 29 = .ok (.iload_n 3, 1) := by decide +kernel
theorem dX5_countChangedLoads_30 : decode cX5_countChangedLoads 30 = .ok (.iaload, 1) := by decide +kernel
theorem dX5_countChangedLoads_31 : decode cX5_countChangedLoads 31 = .ok (.if_icmp .eq 6, 3) := by decide +kernel
theorem dX5_countChangedLoads_34 : decode cX5_countChangedLoads 34 = .ok (.iinc 2 1, 3) := by decide +kernel
theorem dX5_countChangedLoads_37 : decode cX5_countChangedLoads 37 = .ok (.iinc 3 1, 3) := by decide +kernel
theorem dX5_countChangedLoads_40 : decode cX5_countChangedLoads 40 = .ok (.goto (-36), 3) := by decide +kernel
theorem dX5_countChangedLoads_43 : decode cX5_countChangedLoads 43 = .ok (.iload_n 2, 1) := by decide +kernel
theorem dX5_countChangedLoads_44 : decode cX5_countChangedLoads 44 = .ok (.ireturn, 1) := by decide +kernel
theorem dX5_fillDayLoads_0 : decode cX5_fillDayLoads 0 = .ok (.aload_n 1, 1) := by decide +kernel
theorem dX5_fillDayLoads_1 : decode cX5_fillDayLoads 1 = .ok (.invokestatic 91, 3) := by decide +kernel
theorem dX5_fillDayLoads_4 : decode cX5_fillDayLoads 4 = .ok (.iconst 0, 1) := by decide +kernel
theorem dX5_fillDayLoads_5 : decode cX5_fillDayLoads 5 = .ok (.istore_n 2, 1) := by decide +kernel
theorem dX5_fillDayLoads_6 : decode cX5_fillDayLoads 6 = .ok (.iload_n 2, 1) := by decide +kernel
theorem dX5_fillDayLoads_7 : decode cX5_fillDayLoads 7 = .ok (.aload_n 0, 1) := by decide +kernel
theorem dX5_fillDayLoads_8 : decode cX5_fillDayLoads 8 = .ok (.getfield 30, 3) := by decide +kernel
theorem dX5_fillDayLoads_11 : decode cX5_fillDayLoads 11 = .ok (.getfield 80, 3) := by decide +kernel
theorem dX5_fillDayLoads_14 : decode cX5_fillDayLoads 14 = .ok (.if_icmp .ge 33, 3) := by decide +kernel
theorem dX5_fillDayLoads_17 : decode cX5_fillDayLoads 17 = .ok (.aload_n 0, 1) := by decide +kernel
theorem dX5_fillDayLoads_18 : decode cX5_fillDayLoads 18 = .ok (.getfield 30, 3) := by decide +kernel
theorem dX5_fillDayLoads_21 : decode cX5_fillDayLoads 21 = .ok (.getfield 83, 3) := by decide +kernel
theorem dX5_fillDayLoads_24 : decode cX5_fillDayLoads 24 = .ok (.iload_n 2, 1) := by decide +kernel
theorem dX5_fillDayLoads_25 : decode cX5_fillDayLoads 25 = .ok (.aaload, 1) := by decide +kernel
theorem dX5_fillDayLoads_26 : decode cX5_fillDayLoads 26 = .ok (.astore_n 3, 1) := by decide +kernel
theorem dX5_fillDayLoads_27 : decode cX5_fillDayLoads 27 = .ok (.aload_n 1, 1) := by decide +kernel
theorem dX5_fillDayLoads_28 : decode cX5_fillDayLoads 28 = .ok (.aload_n 3, 1) := by decide +kernel
theorem dX5_fillDayLoads_29 : decode cX5_fillDayLoads 29 = .ok (.getfield 54, 3) := by decide +kernel
theorem dX5_fillDayLoads_32 : decode cX5_fillDayLoads 32 = .ok (.dup2, 1) := by decide +kernel
theorem dX5_fillDayLoads_33 : decode cX5_fillDayLoads 33 = .ok (.iaload, 1) := by decide +kernel
theorem dX5_fillDayLoads_34 : decode cX5_fillDayLoads 34 = .ok (.aload_n 0, 1) := by decide +kernel
theorem dX5_fillDayLoads_35 : decode cX5_fillDayLoads 35 = .ok (.aload_n 3, 1) := by decide +kernel
theorem dX5_fillDayLoads_36 : decode cX5_fillDayLoads 36 = .ok (.invokevirtual 87, 3) := by decide +kernel
theorem dX5_fillDayLoads_39 : decode cX5_fillDayLoads 39 = .ok (.iadd, 1) := by decide +kernel
theorem dX5_fillDayLoads_40 : decode cX5_fillDayLoads 40 = .ok (.iastore, 1) := by decide +kernel
theorem dX5_fillDayLoads_41 : decode cX5_fillDayLoads 41 = .ok (.iinc 2 1, 3) := by decide +kernel
theorem dX5_fillDayLoads_44 : decode cX5_fillDayLoads 44 = .ok (.goto (-38), 3) := by decide +kernel
theorem dX5_fillDayLoads_47 : decode cX5_fillDayLoads 47 = .ok (.return_, 1) := by decide +kernel
theorem dX6_init_0 : decode cX6_init 0 = .ok (.aload_n 0, 1) := by decide +kernel
theorem dX6_init_1 : decode cX6_init 1 = .ok (.invokespecial 3, 3) := by decide +kernel
theorem dX6_init_4 : decode cX6_init 4 = .ok (.aload_n 0, 1) := by decide +kernel
theorem dX6_init_5 : decode cX6_init 5 = .ok (.bipush 10, 2) := by decide +kernel
theorem dX6_init_7 : decode cX6_init 7 = .ok (.newarray .int, 2) := by decide +kernel
theorem dX6_init_9 : decode cX6_init 9 = .ok (.putfield 9, 3) := by decide +kernel
theorem dX6_init_12 : decode cX6_init 12 = .ok (.aload_n 0, 1) := by decide +kernel
theorem dX6_init_13 : decode cX6_init 13 = .ok (.bipush 10, 2) := by decide +kernel
theorem dX6_init_15 : decode cX6_init 15 = .ok (.newarray .int, 2) := by decide +kernel
theorem dX6_init_17 : decode cX6_init 17 = .ok (.putfield 15, 3) := by decide +kernel
theorem dX6_init_20 : decode cX6_init 20 = .ok (.aload_n 0, 1) := by decide +kernel
theorem dX6_init_21 : decode cX6_init 21 = .ok (.iconst 0, 1) := by decide +kernel
theorem dX6_init_22 : decode cX6_init 22 = .ok (.putfield 18, 3) := by decide +kernel
theorem dX6_init_25 : decode cX6_init 25 = .ok (.return_, 1) := by decide +kernel
theorem dX6_copyFrom_0 : decode cX6_copyFrom 0 = .ok (.aload_n 1, 1) := by decide +kernel
theorem dX6_copyFrom_1 : decode cX6_copyFrom 1 = .ok (.getfield 9, 3) := by decide +kernel
theorem dX6_copyFrom_4 : decode cX6_copyFrom 4 = .ok (.iconst 0, 1) := by decide +kernel
theorem dX6_copyFrom_5 : decode cX6_copyFrom 5 = .ok (.aload_n 0, 1) := by decide +kernel
theorem dX6_copyFrom_6 : decode cX6_copyFrom 6 = .ok (.getfield 9, 3) := by decide +kernel
theorem dX6_copyFrom_9 : decode cX6_copyFrom 9 = .ok (.iconst 0, 1) := by decide +kernel
theorem dX6_copyFrom_10 : decode cX6_copyFrom 10 = .ok (.bipush 10, 2) := by decide +kernel
theorem dX6_copyFrom_12 : decode cX6_copyFrom 12 = .ok (.invokestatic 22, 3) := by decide +kernel
theorem dX6_copyFrom_15 : decode cX6_copyFrom 15 = .ok (.aload_n 1, 1) := by decide +kernel
theorem dX6_copyFrom_16 : decode cX6_copyFrom 16 = .ok (.getfield 15, 3) := by decide +kernel
theorem dX6_copyFrom_19 : decode cX6_copyFrom 19 = .ok (.iconst 0, 1) := by decide +kernel
theorem dX6_copyFrom_20 : decode cX6_copyFrom 20 = .ok (.aload_n 0, 1) := by decide +kernel
theorem dX6_copyFrom_21 : decode cX6_copyFrom 21 = .ok (.getfield 15, 3) := by decide +kernel
theorem dX6_copyFrom_24 : decode cX6_copyFrom 24 = .ok (.iconst 0, 1) := by decide +kernel
theorem dX6_copyFrom_25 : decode cX6_copyFrom 25 = .ok (.bipush 10, 2) := by decide +kernel
theorem dX6_copyFrom_27 : decode cX6_copyFrom 27 = .ok (.invokestatic 22, 3) := by decide +kernel
theorem dX6_copyFrom_30 : decode cX6_copyFrom 30 = .ok (.aload_n 0, 1) := by decide +kernel
theorem dX6_copyFrom_31 : decode cX6_copyFrom 31 = .ok (.aload_n 1, 1) := by decide +kernel
theorem dX6_copyFrom_32 : decode cX6_copyFrom 32 = .ok (.getfield 18, 3) := by decide +kernel
theorem dX6_copyFrom_35 : decode cX6_copyFrom 35 = .ok (.putfield 18, 3) := by decide +kernel
theorem dX6_copyFrom_38 : decode cX6_copyFrom 38 = .ok (.return_, 1) := by decide +kernel
theorem dX6_positionOn_0 : decode cX6_positionOn 0 = .ok (.iconst 0, 1) := by decide +kernel
theorem dX6_positionOn_1 : decode cX6_positionOn 1 = .ok (.istore_n 2, 1) := by decide +kernel
theorem dX6_positionOn_2 : decode cX6_positionOn 2 = .ok (.iload_n 2, 1) := by decide +kernel
theorem dX6_positionOn_3 : decode cX6_positionOn 3 = .ok (.aload_n 0, 1) := by decide +kernel
theorem dX6_positionOn_4 : decode cX6_positionOn 4 = .ok (.getfield 18, 3) := by decide +kernel
theorem dX6_positionOn_7 : decode cX6_positionOn 7 = .ok (.if_icmp .ge 21, 3) := by decide +kernel
theorem dX6_positionOn_10 : decode cX6_positionOn 10 = .ok (.aload_n 0, 1) := by decide +kernel
theorem dX6_positionOn_11 : decode cX6_positionOn 11 = .ok (.getfield 9, 3) := by decide +kernel
theorem dX6_positionOn_14 : decode cX6_positionOn 14 = .ok (.iload_n 2, 1) := by decide +kernel
theorem dX6_positionOn_15 : decode cX6_positionOn 15 = .ok (.iaload, 1) := by decide +kernel
theorem dX6_positionOn_16 : decode cX6_positionOn 16 = .ok (.iload_n 1, 1) := by decide +kernel
theorem dX6_positionOn_17 : decode cX6_positionOn 17 = .ok (.if_icmp .ne 5, 3) := by decide +kernel
theorem dX6_positionOn_20 : decode cX6_positionOn 20 = .ok (.iload_n 2, 1) := by decide +kernel
theorem dX6_positionOn_21 : decode cX6_positionOn 21 = .ok (.ireturn, 1) := by decide +kernel
theorem dX6_positionOn_22 : decode cX6_positionOn 22 = .ok (.iinc 2 1, 3) := by decide +kernel
theorem dX6_positionOn_25 : decode cX6_positionOn 25 = .ok (.goto (-23), 3) := by decide +kernel
theorem dX6_positionOn_28 : decode cX6_positionOn 28 = .ok (.iconst (-1), 1) := by decide +kernel
theorem dX6_positionOn_29 : decode cX6_positionOn 29 = .ok (.ireturn, 1) := by decide +kernel
theorem dX6_thresholdInForce_0 : decode cX6_thresholdInForce 0 = .ok (.sipush 200, 3) := by decide +kernel
theorem dX6_thresholdInForce_3 : decode cX6_thresholdInForce 3 = .ok (.istore_n 2, 1) := by decide +kernel
theorem dX6_thresholdInForce_4 : decode cX6_thresholdInForce 4 = .ok (.iconst (-1), 1) := by decide +kernel
theorem dX6_thresholdInForce_5 : decode cX6_thresholdInForce 5 = .ok (.istore_n 3, 1) := by decide +kernel
theorem dX6_thresholdInForce_6 : decode cX6_thresholdInForce 6 = .ok (.iconst 0, 1) := by decide +kernel
theorem dX6_thresholdInForce_7 : decode cX6_thresholdInForce 7 = .ok (.istore 4, 2) := by decide +kernel
theorem dX6_thresholdInForce_9 : decode cX6_thresholdInForce 9 = .ok (.iload 4, 2) := by decide +kernel
theorem dX6_thresholdInForce_11 : decode cX6_thresholdInForce 11 = .ok (.aload_n 0, 1) := by decide +kernel
theorem dX6_thresholdInForce_12 : decode cX6_thresholdInForce 12 = .ok (.getfield 18, 3) := by decide +kernel
theorem dX6_thresholdInForce_15 : decode cX6_thresholdInForce 15 = .ok (.if_icmp .ge 47, 3) := by decide +kernel
theorem dX6_thresholdInForce_18 : decode cX6_thresholdInForce 18 = .ok (.aload_n 0, 1) := by decide +kernel
theorem dX6_thresholdInForce_19 : decode cX6_thresholdInForce 19 = .ok (.getfield 9, 3) := by decide +kernel
theorem dX6_thresholdInForce_22 : decode cX6_thresholdInForce 22 = .ok (.iload 4, 2) := by decide +kernel
theorem dX6_thresholdInForce_24 : decode cX6_thresholdInForce 24 = .ok (.iaload, 1) := by decide +kernel
theorem dX6_thresholdInForce_25 : decode cX6_thresholdInForce 25 = .ok (.iload_n 1, 1) := by decide +kernel
theorem dX6_thresholdInForce_26 : decode cX6_thresholdInForce 26 = .ok (.if_icmp .gt 30, 3) := by decide +kernel
theorem dX6_thresholdInForce_29 : decode cX6_thresholdInForce 29 = .ok (.aload_n 0, 1) := by decide +kernel
theorem dX6_thresholdInForce_30 : decode cX6_thresholdInForce 30 = .ok (.getfield 9, 3) := by decide +kernel
theorem dX6_thresholdInForce_33 : decode cX6_thresholdInForce 33 = .ok (.iload 4, 2) := by decide +kernel
theorem dX6_thresholdInForce_35 : decode cX6_thresholdInForce 35 = .ok (.iaload, 1) := by decide +kernel
theorem dX6_thresholdInForce_36 : decode cX6_thresholdInForce 36 = .ok (.iload_n 3, 1) := by decide +kernel
theorem dX6_thresholdInForce_37 : decode cX6_thresholdInForce 37 = .ok (.if_icmp .le 19, 3) := by decide +kernel
theorem dX6_thresholdInForce_40 : decode cX6_thresholdInForce 40 = .ok (.aload_n 0, 1) := by decide +kernel
theorem dX6_thresholdInForce_41 : decode cX6_thresholdInForce 41 = .ok (.getfield 9, 3) := by decide +kernel
theorem dX6_thresholdInForce_44 : decode cX6_thresholdInForce 44 = .ok (.iload 4, 2) := by decide +kernel
theorem dX6_thresholdInForce_46 : decode cX6_thresholdInForce 46 = .ok (.iaload, 1) := by decide +kernel
theorem dX6_thresholdInForce_47 : decode cX6_thresholdInForce 47 = .ok (.istore_n 3, 1) := by decide +kernel
theorem dX6_thresholdInForce_48 : decode cX6_thresholdInForce 48 = .ok (.aload_n 0, 1) := by decide +kernel
theorem dX6_thresholdInForce_49 : decode cX6_thresholdInForce 49 = .ok (.getfield 15, 3) := by decide +kernel
theorem dX6_thresholdInForce_52 : decode cX6_thresholdInForce 52 = .ok (.iload 4, 2) := by decide +kernel
theorem dX6_thresholdInForce_54 : decode cX6_thresholdInForce 54 = .ok (.iaload, 1) := by decide +kernel
theorem dX6_thresholdInForce_55 : decode cX6_thresholdInForce 55 = .ok (.istore_n 2, 1) := by decide +kernel
theorem dX6_thresholdInForce_56 : decode cX6_thresholdInForce 56 = .ok (.iinc 4 1, 3) := by decide +kernel
theorem dX6_thresholdInForce_59 : decode cX6_thresholdInForce 59 = .ok (.goto (-50), 3) := by decide +kernel
theorem dX6_thresholdInForce_62 : decode cX6_thresholdInForce 62 = .ok (.iload_n 2, 1) := by decide +kernel
theorem dX6_thresholdInForce_63 : decode cX6_thresholdInForce 63 = .ok (.ireturn, 1) := by decide +kernel
theorem dX6_append_0 : decode cX6_append 0 = .ok (.aload_n 0, 1) := by decide +kernel
theorem dX6_append_1 : decode cX6_append 1 = .ok (.getfield 9, 3) := by decide +kernel
theorem dX6_append_4 : decode cX6_append 4 = .ok (.aload_n 0, 1) := by decide +kernel
theorem dX6_append_5 : decode cX6_append 5 = .ok (.getfield 18, 3) := by decide +kernel
theorem dX6_append_8 : decode cX6_append 8 = .ok (.iload_n 1, 1) := by decide +kernel
theorem dX6_append_9 : decode cX6_append 9 = .ok (.iastore, 1) := by decide +kernel
theorem dX6_append_10 : decode cX6_append 10 = .ok (.aload_n 0, 1) := by decide +kernel
theorem dX6_append_11 : decode cX6_append 11 = .ok (.getfield 15, 3) := by decide +kernel
theorem dX6_append_14 : decode cX6_append 14 = .ok (.aload_n 0, 1) := by decide +kernel
theorem dX6_append_15 : decode cX6_append 15 = .ok (.getfield 18, 3) := by decide +kernel
theorem dX6_append_18 : decode cX6_append 18 = .ok (.iload_n 2, 1) := by decide +kernel
theorem dX6_append_19 : decode cX6_append 19 = .ok (.iastore, 1) := by decide +kernel
theorem dX6_append_20 : decode cX6_append 20 = .ok (.aload_n 0, 1) := by decide +kernel
theorem dX6_append_21 : decode cX6_append 21 = .ok (.dup, 1) := by decide +kernel
theorem dX6_append_22 : decode cX6_append 22 = .ok (.getfield 18, 3) := by decide +kernel
theorem dX6_append_25 : decode cX6_append 25 = .ok (.iconst 1, 1) := by decide +kernel
theorem dX6_append_26 : decode cX6_append 26 = .ok (.iadd, 1) := by decide +kernel
theorem dX6_append_27 : decode cX6_append 27 = .ok (.putfield 18, 3) := by decide +kernel
theorem dX6_append_30 : decode cX6_append 30 = .ok (.return_, 1) := by decide +kernel
theorem dX6_removeAt_0 : decode cX6_removeAt 0 = .ok (.aload_n 0, 1) := by decide +kernel
theorem dX6_removeAt_1 : decode cX6_removeAt 1 = .ok (.dup, 1) := by decide +kernel
theorem dX6_removeAt_2 : decode cX6_removeAt 2 = .ok (.getfield 18, 3) := by decide +kernel
theorem dX6_removeAt_5 : decode cX6_removeAt 5 = .ok (.iconst 1, 1) := by decide +kernel
theorem dX6_removeAt_6 : decode cX6_removeAt 6 = .ok (.isub, 1) := by decide +kernel
theorem dX6_removeAt_7 : decode cX6_removeAt 7 = .ok (.putfield 18, 3) := by decide +kernel
theorem dX6_removeAt_10 : decode cX6_removeAt 10 = .ok (.aload_n 0, 1) := by decide +kernel
theorem dX6_removeAt_11 : decode cX6_removeAt 11 = .ok (.getfield 9, 3) := by decide +kernel
theorem dX6_removeAt_14 : decode cX6_removeAt 14 = .ok (.iload_n 1, 1) := by decide +kernel
theorem dX6_removeAt_15 : decode cX6_removeAt 15 = .ok (.aload_n 0, 1) := by decide +kernel
theorem dX6_removeAt_16 : decode cX6_removeAt 16 = .ok (.getfield 9, 3) := by decide +kernel
theorem dX6_removeAt_19 : decode cX6_removeAt 19 = .ok (.aload_n 0, 1) := by decide +kernel
theorem dX6_removeAt_20 : decode cX6_removeAt 20 = .ok (.getfield 18, 3) := by decide +kernel
theorem dX6_removeAt_23 : decode cX6_removeAt 23 = .ok (.iaload, 1) := by decide +kernel
theorem dX6_removeAt_24 : decode cX6_removeAt 24 = .ok (.iastore, 1) := by decide +kernel
theorem dX6_removeAt_25 : decode cX6_removeAt 25 = .ok (.aload_n 0, 1) := by decide +kernel
theorem dX6_removeAt_26 : decode cX6_removeAt 26 = .ok (.getfield 15, 3) := by decide +kernel
theorem dX6_removeAt_29 : decode cX6_removeAt 29 = .ok (.iload_n 1, 1) := by decide +kernel
theorem dX6_removeAt_30 : decode cX6_removeAt 30 = .ok (.aload_n 0, 1) := by decide +kernel
theorem dX6_removeAt_31 : decode cX6_removeAt 31 = .ok (.getfield 15, 3) := by decide +kernel
theorem dX6_removeAt_34 : decode cX6_removeAt 34 = .ok (.aload_n 0, 1) := by decide +kernel
theorem dX6_removeAt_35 : decode cX6_removeAt 35 = .ok (.getfield 18, 3) := by decide +kernel
theorem dX6_removeAt_38 : decode cX6_removeAt 38 = .ok (.iaload, 1) := by decide +kernel
theorem dX6_removeAt_39 : decode cX6_removeAt 39 = .ok (.iastore, 1) := by decide +kernel
theorem dX6_removeAt_40 : decode cX6_removeAt 40 = .ok (.return_, 1) := by decide +kernel
theorem dX7_init_0 : decode cX7_init 0 = .ok (.aload_n 0, 1) := by decide +kernel
theorem dX7_init_1 : decode cX7_init 1 = .ok (.invokespecial 3, 3) := by decide +kernel
theorem dX7_init_4 : decode cX7_init 4 = .ok (.aload_n 0, 1) := by decide +kernel
theorem dX7_init_5 : decode cX7_init 5 = .ok (.sipush 200, 3) := by decide +kernel
theorem dX7_init_8 : decode cX7_init 8 = .ok (.newarray .int, 2) := by decide +kernel
theorem dX7_init_10 : decode cX7_init 10 = .ok (.putfield 9, 3) := by decide +kernel
theorem dX7_init_13 : decode cX7_init 13 = .ok (.aload_n 0, 1) := by decide +kernel
theorem dX7_init_14 : decode cX7_init 14 = .ok (.sipush 200, 3) := by decide +kernel
theorem dX7_init_17 : decode cX7_init 17 = .ok (.newarray .int, 2) := by decide +kernel
theorem dX7_init_19 : decode cX7_init 19 = .ok (.putfield 15, 3) := by decide +kernel
theorem dX7_init_22 : decode cX7_init 22 = .ok (.aload_n 0, 1) := by decide +kernel
theorem dX7_init_23 : decode cX7_init 23 = .ok (.iconst 0, 1) := by decide +kernel
theorem dX7_init_24 : decode cX7_init 24 = .ok (.putfield 18, 3) := by decide +kernel
theorem dX7_init_27 : decode cX7_init 27 = .ok (.return_, 1) := by decide +kernel
theorem dX7_forgetFrom_0 : decode cX7_forgetFrom 0 = .ok (.aload_n 0, 1) := by decide +kernel
theorem dX7_forgetFrom_1 : decode cX7_forgetFrom 1 = .ok (.aload_n 0, 1) := by decide +kernel
theorem dX7_forgetFrom_2 : decode cX7_forgetFrom 2 = .ok (.getfield 18, 3) := by decide +kernel
theorem dX7_forgetFrom_5 : decode cX7_forgetFrom 5 = .ok (.iload_n 1, 1) := by decide +kernel
theorem dX7_forgetFrom_6 : decode cX7_forgetFrom 6 = .ok (.invokestatic 22, 3) := by decide +kernel
theorem dX7_forgetFrom_9 : decode cX7_forgetFrom 9 = .ok (.putfield 18, 3) := by decide +kernel
theorem dX7_forgetFrom_12 : decode cX7_forgetFrom 12 = .ok (.return_, 1) := by decide +kernel
theorem dX7_fitnessBefore_0 : decode cX7_fitnessBefore 0 = .ok (.iload_n 1, 1) := by decide +kernel
theorem dX7_fitnessBefore_1 : decode cX7_fitnessBefore 1 = .ok (.ifCond .ne 7, 3) := by decide +kernel
theorem dX7_fitnessBefore_4 : decode cX7_fitnessBefore 4 = .ok (.iconst 0, 1) := by decide +kernel
theorem dX7_fitnessBefore_5 : decode cX7_fitnessBefore 5 = .ok (.goto 11, 3) := by decide +kernel
theorem dX7_fitnessBefore_8 : decode cX7_fitnessBefore 8 = .ok (.aload_n 0, 1) := by decide +kernel
theorem dX7_fitnessBefore_9 : decode cX7_fitnessBefore 9 = .ok (.getfield 9, 3) := by decide +kernel
theorem dX7_fitnessBefore_12 : decode cX7_fitnessBefore 12 = .ok (.iload_n 1, 1) := by decide +kernel
theorem dX7_fitnessBefore_13 : decode cX7_fitnessBefore 13 = .ok (.iconst 1, 1) := by decide +kernel
theorem dX7_fitnessBefore_14 : decode cX7_fitnessBefore 14 = .ok (.isub, 1) := by decide +kernel
theorem dX7_fitnessBefore_15 : decode cX7_fitnessBefore 15 = .ok (.iaload, 1) := by decide +kernel
theorem dX7_fitnessBefore_16 : decode cX7_fitnessBefore 16 = .ok (.ireturn, 1) := by decide +kernel
theorem dX7_fatigueBefore_0 : decode cX7_fatigueBefore 0 = .ok (.iload_n 1, 1) := by decide +kernel
theorem dX7_fatigueBefore_1 : decode cX7_fatigueBefore 1 = .ok (.ifCond .ne 7, 3) := by decide +kernel
theorem dX7_fatigueBefore_4 : decode cX7_fatigueBefore 4 = .ok (.iconst 0, 1) := by decide +kernel
theorem dX7_fatigueBefore_5 : decode cX7_fatigueBefore 5 = .ok (.goto 11, 3) := by decide +kernel
theorem dX7_fatigueBefore_8 : decode cX7_fatigueBefore 8 = .ok (.aload_n 0, 1) := by decide +kernel
theorem dX7_fatigueBefore_9 : decode cX7_fatigueBefore 9 = .ok (.getfield 15, 3) := by decide +kernel
theorem dX7_fatigueBefore_12 : decode cX7_fatigueBefore 12 = .ok (.iload_n 1, 1) := by decide +kernel
theorem dX7_fatigueBefore_13 : decode cX7_fatigueBefore 13 = .ok (.iconst 1, 1) := by decide +kernel
theorem dX7_fatigueBefore_14 : decode cX7_fatigueBefore 14 = .ok (.isub, 1) := by decide +kernel
theorem dX7_fatigueBefore_15 : decode cX7_fatigueBefore 15 = .ok (.iaload, 1) := by decide +kernel
theorem dX7_fatigueBefore_16 : decode cX7_fatigueBefore 16 = .ok (.ireturn, 1) := by decide +kernel
theorem dX8_init_0 : decode cX8_init 0 = .ok (.aload_n 0, 1) := by decide +kernel
theorem dX8_init_1 : decode cX8_init 1 = .ok (.invokespecial 3, 3) := by decide +kernel
theorem dX8_init_4 : decode cX8_init 4 = .ok (.aload_n 0, 1) := by decide +kernel
theorem dX8_init_5 : decode cX8_init 5 = .ok (.getstatic 9, 3) := by decide +kernel
theorem dX8_init_8 : decode cX8_init 8 = .ok (.invokevirtual 13, 3) := by decide +kernel
theorem dX8_init_11 : decode cX8_init 11 = .ok (.checkcast 14, 3) := by decide +kernel
theorem dX8_init_14 : decode cX8_init 14 = .ok (.putfield 18, 3) := by decide +kernel
theorem dX8_init_17 : decode cX8_init 17 = .ok (.aload_n 0, 1) := by decide +kernel
theorem dX8_init_18 : decode cX8_init 18 = .ok (.getstatic 23, 3) := by decide +kernel
theorem dX8_init_21 : decode cX8_init 21 = .ok (.invokevirtual 13, 3) := by decide +kernel
theorem dX8_init_24 : decode cX8_init 24 = .ok (.checkcast 14, 3) := by decide +kernel
theorem dX8_init_27 : decode cX8_init 27 = .ok (.putfield 26, 3) := by decide +kernel
theorem dX8_init_30 : decode cX8_init 30 = .ok (.return_, 1) := by decide +kernel
theorem dX8_copyFrom_0 : decode cX8_copyFrom 0 = .ok (.aload_n 1, 1) := by decide +kernel
theorem dX8_copyFrom_1 : decode cX8_copyFrom 1 = .ok (.getfield 18, 3) := by decide +kernel
theorem dX8_copyFrom_4 : decode cX8_copyFrom 4 = .ok (.iconst 0, 1) := by decide +kernel
theorem dX8_copyFrom_5 : decode cX8_copyFrom 5 = .ok (.aload_n 0, 1) := by decide +kernel
theorem dX8_copyFrom_6 : decode cX8_copyFrom 6 = .ok (.getfield 18, 3) := by decide +kernel
theorem dX8_copyFrom_9 : decode cX8_copyFrom 9 = .ok (.iconst 0, 1) := by decide +kernel
theorem dX8_copyFrom_10 : decode cX8_copyFrom 10 = .ok (.bipush 6, 2) := by decide +kernel
theorem dX8_copyFrom_12 : decode cX8_copyFrom 12 = .ok (.invokestatic 29, 3) := by decide +kernel
theorem dX8_copyFrom_15 : decode cX8_copyFrom 15 = .ok (.aload_n 1, 1) := by decide +kernel
theorem dX8_copyFrom_16 : decode cX8_copyFrom 16 = .ok (.getfield 26, 3) := by decide +kernel
theorem dX8_copyFrom_19 : decode cX8_copyFrom 19 = .ok (.iconst 0, 1) := by decide +kernel
theorem dX8_copyFrom_20 : decode cX8_copyFrom 20 = .ok (.aload_n 0, 1) := by decide +kernel
theorem dX8_copyFrom_21 : decode cX8_copyFrom 21 = .ok (.getfield 26, 3) := by decide +kernel
theorem dX8_copyFrom_24 : decode cX8_copyFrom 24 = .ok (.iconst 0, 1) := by decide +kernel
theorem dX8_copyFrom_25 : decode cX8_copyFrom 25 = .ok (.bipush 6, 2) := by decide +kernel
theorem dX8_copyFrom_27 : decode cX8_copyFrom 27 = .ok (.invokestatic 29, 3) := by decide +kernel
theorem dX8_copyFrom_30 : decode cX8_copyFrom 30 = .ok (.return_, 1) := by decide +kernel
theorem dX8_boundsWouldIncrease_0 : decode cX8_boundsWouldIncrease 0 = .ok (.iload_n 1, 1) := by decide +kernel
theorem dX8_boundsWouldIncrease_1 : decode cX8_boundsWouldIncrease 1 = .ok (.iconst 2, 1) := by decide +kernel
theorem dX8_boundsWouldIncrease_2 : decode cX8_boundsWouldIncrease 2 = .ok (.if_icmp .eq 15, 3) := by decide +kernel
theorem dX8_boundsWouldIncrease_5 : decode cX8_boundsWouldIncrease 5 = .ok (.iload_n 2, 1) := by decide +kernel
theorem dX8_boundsWouldIncrease_6 : decode cX8_boundsWouldIncrease 6 = .ok (.aload_n 0, 1) := by decide +kernel
theorem dX8_boundsWouldIncrease_7 : decode cX8_boundsWouldIncrease 7 = .ok (.getfield 18, 3) := by decide +kernel
theorem dX8_boundsWouldIncrease_10 : decode cX8_boundsWouldIncrease 10 = .ok (.iload_n 1, 1) := by decide +kernel
theorem dX8_boundsWouldIncrease_11 : decode cX8_boundsWouldIncrease 11 = .ok (.iconst 1, 1) := by decide +kernel
theorem dX8_boundsWouldIncrease_12 : decode cX8_boundsWouldIncrease 12 = .ok (.isub, 1) := by decide +kernel
theorem dX8_boundsWouldIncrease_13 : decode cX8_boundsWouldIncrease 13 = .ok (.iaload, 1) := by decide +kernel
theorem dX8_boundsWouldIncrease_14 : decode cX8_boundsWouldIncrease 14 = .ok (.if_icmp .le 7, 3) := by decide +kernel
theorem dX8_boundsWouldIncrease_17 : decode cX8_boundsWouldIncrease 17 = .ok (.iconst 1, 1) := by decide +kernel
theorem dX8_boundsWouldIncrease_18 : decode cX8_boundsWouldIncrease 18 = .ok (.goto 4, 3) := by decide +kernel
theorem dX8_boundsWouldIncrease_21 : decode cX8_boundsWouldIncrease 21 = .ok (.iconst 0, 1) := by decide +kernel
theorem dX8_boundsWouldIncrease_22 : decode cX8_boundsWouldIncrease 22 = .ok (.istore_n 3, 1) := by decide +kernel
theorem dX8_boundsWouldIncrease_23 : decode cX8_boundsWouldIncrease 23 = .ok (.iload_n 1, 1) := by decide +kernel
theorem dX8_boundsWouldIncrease_24 : decode cX8_boundsWouldIncrease 24 = .ok (.iconst 5, 1) := by decide +kernel
theorem dX8_boundsWouldIncrease_25 : decode cX8_boundsWouldIncrease 25 = .ok (.if_icmp .eq 15, 3) := by decide +kernel
theorem dX8_boundsWouldIncrease_28 : decode cX8_boundsWouldIncrease 28 = .ok (.iload_n 2, 1) := by decide +kernel
theorem dX8_boundsWouldIncrease_29 : decode cX8_boundsWouldIncrease 29 = .ok (.aload_n 0, 1) := by decide +kernel
theorem dX8_boundsWouldIncrease_30 : decode cX8_boundsWouldIncrease 30 = .ok (.getfield 18, 3) := by decide +kernel
theorem dX8_boundsWouldIncrease_33 : decode cX8_boundsWouldIncrease 33 = .ok (.iload_n 1, 1) := by decide +kernel
theorem dX8_boundsWouldIncrease_34 : decode cX8_boundsWouldIncrease 34 = .ok (.iconst 1, 1) := by decide +kernel
theorem dX8_boundsWouldIncrease_35 : decode cX8_boundsWouldIncrease 35 = .ok (.iadd, 1) := by decide +kernel
theorem dX8_boundsWouldIncrease_36 : decode cX8_boundsWouldIncrease 36 = .ok (.iaload, 1) := by decide +kernel
theorem dX8_boundsWouldIncrease_37 : decode cX8_boundsWouldIncrease 37 = .ok (.if_icmp .ge 7, 3) := by decide +kernel
theorem dX8_boundsWouldIncrease_40 : decode cX8_boundsWouldIncrease 40 = .ok (.iconst 1, 1) := by decide +kernel
theorem dX8_boundsWouldIncrease_41 : decode cX8_boundsWouldIncrease 41 = .ok (.goto 4, 3) := by decide +kernel
theorem dX8_boundsWouldIncrease_44 : decode cX8_boundsWouldIncrease 44 = .ok (.iconst 0, 1) := by decide +kernel
theorem dX8_boundsWouldIncrease_45 : decode cX8_boundsWouldIncrease 45 = .ok (.istore 4, 2) := by decide +kernel
theorem dX8_boundsWouldIncrease_47 : decode cX8_boundsWouldIncrease 47 = .ok (.iload_n 3, 1) := by decide +kernel
theorem dX8_boundsWouldIncrease_48 : decode cX8_boundsWouldIncrease 48 = .ok (.ifCond .eq 12, 3) := by decide +kernel
theorem dX8_boundsWouldIncrease_51 : decode cX8_boundsWouldIncrease 51 = .ok (.iload 4, 2) := by decide +kernel
theorem dX8_boundsWouldIncrease_53 : decode cX8_boundsWouldIncrease 53 = .ok (.ifCond .eq 7, 3) := by decide +kernel
theorem dX8_boundsWouldIncrease_56 : decode cX8_boundsWouldIncrease 56 = .ok (.iconst 1, 1) := by decide +kernel
theorem dX8_boundsWouldIncrease_57 : decode cX8_boundsWouldIncrease 57 = .ok (.goto 4, 3) := by decide +kernel
theorem dX8_boundsWouldIncrease_60 : decode cX8_boundsWouldIncrease 60 = .ok (.iconst 0, 1) := by decide +kernel
theorem dX8_boundsWouldIncrease_61 : decode cX8_boundsWouldIncrease 61 = .ok (.ireturn, 1) := by decide +kernel
theorem dX8_zoneFor_0 : decode cX8_zoneFor 0 = .ok (.iconst 5, 1) := by decide +kernel
theorem dX8_zoneFor_1 : decode cX8_zoneFor 1 = .ok (.istore_n 3, 1) := by decide +kernel
theorem dX8_zoneFor_2 : decode cX8_zoneFor 2 = .ok (.iload_n 3, 1) := by decide +kernel
theorem dX8_zoneFor_3 : decode cX8_zoneFor 3 = .ok (.iconst 2, 1) := by decide +kernel
theorem dX8_zoneFor_4 : decode cX8_zoneFor 4 = .ok (.if_icmp .lt 26, 3) := by decide +kernel
theorem dX8_zoneFor_7 : decode cX8_zoneFor 7 = .ok (.aload_n 0, 1) := by decide +kernel
theorem dX8_zoneFor_8 : decode cX8_zoneFor 8 = .ok (.getfield 18, 3) := by decide +kernel
theorem dX8_zoneFor_11 : decode cX8_zoneFor 11 = .ok (.iload_n 3, 1) := by decide +kernel
theorem dX8_zoneFor_12 : decode cX8_zoneFor 12 = .ok (.iaload, 1) := by decide +kernel
theorem dX8_zoneFor_13 : decode cX8_zoneFor 13 = .ok (.iload_n 2, 1) := by decide +kernel
theorem dX8_zoneFor_14 : decode cX8_zoneFor 14 = .ok (.imul, 1) := by decide +kernel
theorem dX8_zoneFor_15 : decode cX8_zoneFor 15 = .ok (.bipush 100, 2) := by decide +kernel
theorem dX8_zoneFor_17 : decode cX8_zoneFor 17 = .ok (.iload_n 1, 1) := by decide +kernel
theorem dX8_zoneFor_18 : decode cX8_zoneFor 18 = .ok (.imul, 1) := by decide +kernel
theorem dX8_zoneFor_19 : decode cX8_zoneFor 19 = .ok (.if_icmp .gt 5, 3) := by decide +kernel
theorem dX8_zoneFor_22 : decode cX8_zoneFor 22 = .ok (.iload_n 3, 1) := by decide +kernel
theorem dX8_zoneFor_23 : decode cX8_zoneFor 23 = .ok (.ireturn, 1) := by decide +kernel
theorem dX8_zoneFor_24 : decode cX8_zoneFor 24 = .ok (.iinc 3 (-1), 3) := by decide +kernel
theorem dX8_zoneFor_27 : decode cX8_zoneFor 27 = .ok (.goto (-25), 3) := by decide +kernel
theorem dX8_zoneFor_30 : decode cX8_zoneFor 30 = .ok (.iconst 1, 1) := by decide +kernel
theorem dX8_zoneFor_31 : decode cX8_zoneFor 31 = .ok (.ireturn, 1) := by decide +kernel
theorem dX9_init_0 : decode cX9_init 0 = .ok (.aload_n 0, 1) := by decide +kernel
theorem dX9_init_1 : decode cX9_init 1 = .ok (.invokespecial 3, 3) := by decide +kernel
theorem dX9_init_4 : decode cX9_init 4 = .ok (.aload_n 0, 1) := by decide +kernel
theorem dX9_init_5 : decode cX9_init 5 = .ok (.new 9, 3) := by decide +kernel
theorem dX9_init_8 : decode cX9_init 8 = .ok (.dup, 1) := by decide +kernel
theorem dX9_init_9 : decode cX9_init 9 = .ok (.invokespecial 11, 3) := by decide +kernel
theorem dX9_init_12 : decode cX9_init 12 = .ok (.putfield 12, 3) := by decide +kernel
theorem dX9_init_15 : decode cX9_init 15 = .ok (.aload_n 0, 1) := by decide +kernel
theorem dX9_init_16 : decode cX9_init 16 = .ok (.new 16, 3) := by decide +kernel
theorem dX9_init_19 : decode cX9_init 19 = .ok (.dup, 1) := by decide +kernel
theorem dX9_init_20 : decode cX9_init 20 = .ok (.invokespecial 18, 3) := by decide +kernel
theorem dX9_init_23 : decode cX9_init 23 = .ok (.putfield 19, 3) := by decide +kernel
theorem dX9_init_26 : decode cX9_init 26 = .ok (.aload_n 0, 1) := by decide +kernel
theorem dX9_init_27 : decode cX9_init 27 = .ok (.new 9, 3) := by decide +kernel
theorem dX9_init_30 : decode cX9_init 30 = .ok (.dup, 1) := by decide +kernel
theorem dX9_init_31 : decode cX9_init 31 = .ok (.invokespecial 11, 3) := by decide +kernel
theorem dX9_init_34 : decode cX9_init 34 = .ok (.putfield 23, 3) := by decide +kernel
theorem dX9_init_37 : decode cX9_init 37 = .ok (.aload_n 0, 1) := by decide +kernel
theorem dX9_init_38 : decode cX9_init 38 = .ok (.iconst 0, 1) := by decide +kernel
theorem dX9_init_39 : decode cX9_init 39 = .ok (.putfield 26, 3) := by decide +kernel
theorem dX9_init_42 : decode cX9_init 42 = .ok (.aload_n 0, 1) := by decide +kernel
theorem dX9_init_43 : decode cX9_init 43 = .ok (.bipush 13, 2) := by decide +kernel
theorem dX9_init_45 : decode cX9_init 45 = .ok (.newarray .char, 2) := by decide +kernel
theorem dX9_init_47 : decode cX9_init 47 = .ok (.putfield 30, 3) := by decide +kernel
theorem dX9_init_50 : decode cX9_init 50 = .ok (.aload_n 0, 1) := by decide +kernel
theorem dX9_init_51 : decode cX9_init 51 = .ok (.iconst 0, 1) := by decide +kernel
theorem dX9_init_52 : decode cX9_init 52 = .ok (.putfield 34, 3) := by decide +kernel
theorem dX9_init_55 : decode cX9_init 55 = .ok (.aload_n 0, 1) := by decide +kernel
theorem dX9_init_56 : decode cX9_init 56 = .ok (.new 38, 3) := by decide +kernel
theorem dX9_init_59 : decode cX9_init 59 = .ok (.dup, 1) := by decide +kernel
theorem dX9_init_60 : decode cX9_init 60 = .ok (.invokespecial 40, 3) := by decide +kernel
theorem dX9_init_63 : decode cX9_init 63 = .ok (.putfield 41, 3) := by decide +kernel
theorem dX9_init_66 : decode cX9_init 66 = .ok (.aload_n 0, 1) := by decide +kernel
theorem dX9_init_67 : decode cX9_init 67 = .ok (.new 45, 3) := by decide +kernel
theorem dX9_init_70 : decode cX9_init 70 = .ok (.dup, 1) := by decide +kernel
theorem dX9_init_71 : decode cX9_init 71 = .ok (.invokespecial 47, 3) := by decide +kernel
theorem dX9_init_74 : decode cX9_init 74 = .ok (.putfield 48, 3) := by decide +kernel
theorem dX9_init_77 : decode cX9_init 77 = .ok (.aload_n 0, 1) := by decide +kernel
theorem dX9_init_78 : decode cX9_init 78 = .ok (.sipush 200, 3) := by decide +kernel
theorem dX9_init_81 : decode cX9_init 81 = .ok (.newarray .int, 2) := by decide +kernel
theorem dX9_init_83 : decode cX9_init 83 = .ok (.putfield 52, 3) := by decide +kernel
theorem dX9_init_86 : decode cX9_init 86 = .ok (.aload_n 0, 1) := by decide +kernel
theorem dX9_init_87 : decode cX9_init 87 = .ok (.bipush 40, 2) := by decide +kernel
theorem dX9_init_89 : decode cX9_init 89 = .ok (.newarray .int, 2) := by decide +kernel
theorem dX9_init_91 : decode cX9_init 91 = .ok (.putfield 56, 3) := by decide +kernel
theorem dX9_init_94 : decode cX9_init 94 = .ok (.aload_n 0, 1) := by decide +kernel
theorem dX9_init_95 : decode cX9_init 95 = .ok (.bipush 6, 2) := by decide +kernel
theorem dX9_init_97 : decode cX9_init 97 = .ok (.newarray .int, 2) := by decide +kernel
theorem dX9_init_99 : decode cX9_init 99 = .ok (.putfield 59, 3) := by decide +kernel
theorem dX9_init_102 : decode cX9_init 102 = .ok (.aload_n 0, 1) := by decide +kernel
theorem dX9_init_103 : decode cX9_init 103 = .ok (.sipush 241, 3) := by decide +kernel
theorem dX9_init_106 : decode cX9_init 106 = .ok (.newarray .int, 2) := by decide +kernel
theorem dX9_init_108 : decode cX9_init 108 = .ok (.putfield 62, 3) := by decide +kernel
theorem dX9_init_111 : decode cX9_init 111 = .ok (.return_, 1) := by decide +kernel
theorem dX9_pass_0 : decode cX9_pass 0 = .ok (.iload_n 1, 1) := by decide +kernel
theorem dX9_pass_1 : decode cX9_pass 1 = .ok (.iconst 1, 1) := by decide +kernel
theorem dX9_pass_2 : decode cX9_pass 2 = .ok (.bipush 30, 2) := by decide +kernel
theorem dX9_pass_4 : decode cX9_pass 4 = .ok (.invokestatic 65, 3) := by decide +kernel
theorem dX9_pass_7 : decode cX9_pass 7 = .ok (.aload_n 0, 1) := by decide +kernel
theorem dX9_pass_8 : decode cX9_pass 8 = .ok (.getfield 12, 3) := by decide +kernel
theorem dX9_pass_11 : decode cX9_pass 11 = .ok (.getfield 69, 3) := by decide +kernel
theorem dX9_pass_14 : decode cX9_pass 14 = .ok (.iload_n 1, 1) := by decide +kernel
theorem dX9_pass_15 : decode cX9_pass 15 = .ok (.iadd, 1) := by decide +kernel
theorem dX9_pass_16 : decode cX9_pass 16 = .ok (.sipush 200, 3) := by decide +kernel
theorem dX9_pass_19 : decode cX9_pass 19 = .ok (.if_icmp .lt 13, 3) := by decide +kernel
theorem dX9_pass_22 : decode cX9_pass 22 = .ok (.new 72, 3) := by decide +kernel
theorem dX9_pass_25 : decode cX9_pass 25 = .ok (.dup, 1) := by decide +kernel
theorem dX9_pass_26 : decode cX9_pass 26 = .ok (.ldc 74, 2) := by decide +kernel
theorem dX9_pass_28 : decode cX9_pass 28 = .ok (.invokespecial 76, 3) := by decide +kernel
theorem dX9_pass_31 : decode cX9_pass 31 = .ok (.athrow, 1) := by decide +kernel
theorem dX9_pass_32 : decode cX9_pass 32 = .ok (.aload_n 0, 1) := by decide +kernel
theorem dX9_pass_33 : decode cX9_pass 33 = .ok (.getfield 19, 3) := by decide +kernel
theorem dX9_pass_36 : decode cX9_pass 36 = .ok (.aload_n 0, 1) := by decide +kernel
theorem dX9_pass_37 : decode cX9_pass 37 = .ok (.getfield 12, 3) := by decide +kernel
theorem dX9_pass_40 : decode cX9_pass 40 = .ok (.invokevirtual 79, 3) := by decide +kernel
theorem dX9_pass_43 : decode cX9_pass 43 = .ok (.aload_n 0, 1) := by decide +kernel
theorem dX9_pass_44 : decode cX9_pass 44 = .ok (.getfield 12, 3) := by decide +kernel
theorem dX9_pass_47 : decode cX9_pass 47 = .ok (.dup, 1) := by decide +kernel
theorem dX9_pass_48 : decode cX9_pass 48 = .ok (.getfield 69, 3) := by decide +kernel
theorem dX9_pass_51 : decode cX9_pass 51 = .ok (.iload_n 1, 1) := by decide +kernel
theorem dX9_pass_52 : decode cX9_pass 52 = .ok (.iadd, 1) := by decide +kernel
theorem dX9_pass_53 : decode cX9_pass 53 = .ok (.putfield 69, 3) := by decide +kernel
theorem dX9_pass_56 : decode cX9_pass 56 = .ok (.aload_n 0, 1) := by decide +kernel
theorem dX9_pass_57 : decode cX9_pass 57 = .ok (.getfield 12, 3) := by decide +kernel
theorem dX9_pass_60 : decode cX9_pass 60 = .ok (.getfield 69, 3) := by decide +kernel
theorem dX9_pass_63 : decode cX9_pass 63 = .ok (.ireturn, 1) := by decide +kernel
theorem dX9_today_0 : decode cX9_today 0 = .ok (.aload_n 0, 1) := by decide +kernel
theorem dX9_today_1 : decode cX9_today 1 = .ok (.getfield 12, 3) := by decide +kernel
theorem dX9_today_4 : decode cX9_today 4 = .ok (.getfield 69, 3) := by decide +kernel
theorem dX9_today_7 : decode cX9_today 7 = .ok (.ireturn, 1) := by decide +kernel
theorem dX9_addTest_0 : decode cX9_addTest 0 = .ok (.aload_n 0, 1) := by decide +kernel
theorem dX9_addTest_1 : decode cX9_addTest 1 = .ok (.iload_n 1, 1) := by decide +kernel
theorem dX9_addTest_2 : decode cX9_addTest 2 = .ok (.invokevirtual 83, 3) := by decide +kernel
theorem dX9_addTest_5 : decode cX9_addTest 5 = .ok (.iload_n 2, 1) := by decide +kernel
theorem dX9_addTest_6 : decode cX9_addTest 6 = .ok (.bipush 50, 2) := by decide +kernel
theorem dX9_addTest_8 : decode cX9_addTest 8 = .ok (.sipush 400, 3) := by decide +kernel
theorem dX9_addTest_11 : decode cX9_addTest 11 = .ok (.invokestatic 65, 3) := by decide +kernel
theorem dX9_addTest_14 : decode cX9_addTest 14 = .ok (.aload_n 0, 1) := by decide +kernel
theorem dX9_addTest_15 : decode cX9_addTest 15 = .ok (.getfield 12, 3) := by decide +kernel
theorem dX9_addTest_18 : decode cX9_addTest 18 = .ok (.getfield 87, 3) := by decide +kernel
theorem dX9_addTest_21 : decode cX9_addTest 21 = .ok (.astore_n 3, 1) := by decide +kernel
theorem dX9_addTest_22 : decode cX9_addTest 22 = .ok (.aload_n 3, 1) := by decide +kernel
theorem dX9_addTest_23 : decode cX9_addTest 23 = .ok (.getfield 91, 3) := by decide +kernel
theorem dX9_addTest_26 : decode cX9_addTest 26 = .ok (.bipush 10, 2) := by decide +kernel
theorem dX9_addTest_28 : decode cX9_addTest 28 = .ok (.if_icmp .ge 11, 3) := by decide +kernel
theorem dX9_addTest_31 : decode cX9_addTest 31 = .ok (.aload_n 3, 1) := by decide +kernel
theorem dX9_addTest_32 : decode cX9_addTest 32 = .ok (.iload_n 1, 1) := by decide +kernel
theorem dX9_addTest_33 : decode cX9_addTest 33 = .ok (.invokevirtual 96, 3) := by decide +kernel
theorem dX9_addTest_36 : decode cX9_addTest 36 = .ok (.ifCond .lt 13, 3) := by decide +kernel
theorem dX9_addTest_39 : decode cX9_addTest 39 = .ok (.new 72, 3) := by decide +kernel
theorem dX9_addTest_42 : decode cX9_addTest 42 = .ok (.dup, 1) := by decide +kernel
theorem dX9_addTest_43 : decode cX9_addTest 43 = .ok (.ldc 100, 2) := by decide +kernel
theorem dX9_addTest_45 : decode cX9_addTest 45 = .ok (.invokespecial 76, 3) := by decide +kernel
theorem dX9_addTest_48 : decode cX9_addTest 48 = .ok (.athrow, 1) := by decide +kernel
theorem dX9_addTest_49 : decode cX9_addTest 49 = .ok (.aload_n 0, 1) := by decide +kernel
theorem dX9_addTest_50 : decode cX9_addTest 50 = .ok (.getfield 19, 3) := by decide +kernel
theorem dX9_addTest_53 : decode cX9_addTest 53 = .ok (.aload_n 0, 1) := by decide +kernel
theorem dX9_addTest_54 : decode cX9_addTest 54 = .ok (.getfield 12, 3) := by decide +kernel
theorem dX9_addTest_57 : decode cX9_addTest 57 = .ok (.invokevirtual 79, 3) := by decide +kernel
theorem dX9_addTest_60 : decode cX9_addTest 60 = .ok (.aload_n 0, 1) := by decide +kernel
theorem dX9_addTest_61 : decode cX9_addTest 61 = .ok (.getfield 12, 3) := by decide +kernel
theorem dX9_addTest_64 : decode cX9_addTest 64 = .ok (.aload_n 0, 1) := by decide +kernel
theorem dX9_addTest_65 : decode cX9_addTest 65 = .ok (.getfield 56, 3) := by decide +kernel
theorem dX9_addTest_68 : decode cX9_addTest 68 = .ok (.invokevirtual 102, 3) := by decide +kernel
theorem dX9_addTest_71 : decode cX9_addTest 71 = .ok (.aload_n 3, 1) := by decide +kernel
theorem dX9_addTest_72 : decode cX9_addTest 72 = .ok (.iload_n 1, 1) := by decide +kernel
theorem dX9_addTest_73 : decode cX9_addTest 73 = .ok (.iload_n 2, 1) := by decide +kernel
theorem dX9_addTest_74 : decode cX9_addTest 74 = .ok (.invokevirtual 106, 3) := by decide +kernel
theorem dX9_addTest_77 : decode cX9_addTest 77 = .ok (.aload_n 0, 1) := by decide +kernel
theorem dX9_addTest_78 : decode cX9_addTest 78 = .ok (.getfield 41, 3) := by decide +kernel
theorem dX9_addTest_81 : decode cX9_addTest 81 = .ok (.iload_n 1, 1) := by decide +kernel
theorem dX9_addTest_82 : decode cX9_addTest 82 = .ok (.invokevirtual 110, 3) := by decide +kernel
theorem dX9_addTest_85 : decode cX9_addTest 85 = .ok (.aload_n 0, 1) := by decide +kernel
theorem dX9_addTest_86 : decode cX9_addTest 86 = .ok (.getfield 12, 3) := by decide +kernel
theorem dX9_addTest_89 : decode cX9_addTest 89 = .ok (.aload_n 0, 1) := by decide +kernel
theorem dX9_addTest_90 : decode cX9_addTest 90 = .ok (.getfield 56, 3) := by decide +kernel
theorem dX9_addTest_93 : decode cX9_addTest 93 = .ok (.invokevirtual 113, 3) := by decide +kernel
theorem dX9_addTest_96 : decode cX9_addTest 96 = .ok (.ireturn, 1) := by decide +kernel
theorem dX9_removeTest_0 : decode cX9_removeTest 0 = .ok (.aload_n 0, 1) := by decide +kernel
theorem dX9_removeTest_1 : decode cX9_removeTest 1 = .ok (.getfield 12, 3) := by decide +kernel
theorem dX9_removeTest_4 : decode cX9_removeTest 4 = .ok (.getfield 87, 3) := by decide +kernel
theorem dX9_removeTest_7 : decode cX9_removeTest 7 = .ok (.iload_n 1, 1) := by decide +kernel
theorem dX9_removeTest_8 : decode cX9_removeTest 8 = .ok (.invokevirtual 96, 3) := by decide +kernel
theorem dX9_removeTest_11 : decode cX9_removeTest 11 = .ok (.istore_n 2, 1) := by decide +kernel
theorem dX9_removeTest_12 : decode cX9_removeTest 12 = .ok (.iload_n 2, 1) := by decide +kernel
theorem dX9_removeTest_13 : decode cX9_removeTest 13 = .ok (.ifCond .ge 13, 3) := by decide +kernel
theorem dX9_removeTest_16 : decode cX9_removeTest 16 = .ok (.new 117, 3) := by decide +kernel
theorem dX9_removeTest_19 : decode cX9_removeTest 19 = .ok (.dup, 1) := by decide +kernel
theorem dX9_removeTest_20 : decode cX9_removeTest 20 = .ok (.ldc 119, 2) := by decide +kernel
theorem dX9_removeTest_22 : decode cX9_removeTest 22 = .ok (.invokespecial 121, 3) := by decide +kernel
theorem dX9_removeTest_25 : decode cX9_removeTest 25 = .ok (.athrow, 1) := by decide +kernel
theorem dX9_removeTest_26 : decode cX9_removeTest 26 = .ok (.aload_n 0, 1) := by decide +kernel
theorem dX9_removeTest_27 : decode cX9_removeTest 27 = .ok (.getfield 19, 3) := by decide +kernel
theorem dX9_removeTest_30 : decode cX9_removeTest 30 = .ok (.aload_n 0, 1) := by decide +kernel
theorem dX9_removeTest_31 : decode cX9_removeTest 31 = .ok (.getfield 12, 3) := by decide +kernel
theorem dX9_removeTest_34 : decode cX9_removeTest 34 = .ok (.invokevirtual 79, 3) := by decide +kernel
theorem dX9_removeTest_37 : decode cX9_removeTest 37 = .ok (.aload_n 0, 1) := by decide +kernel
theorem dX9_removeTest_38 : decode cX9_removeTest 38 = .ok (.getfield 12, 3) := by decide +kernel
theorem dX9_removeTest_41 : decode cX9_removeTest 41 = .ok (.getfield 87, 3) := by decide +kernel
theorem dX9_removeTest_44 : decode cX9_removeTest 44 = .ok (.getfield 122, 3) := by decide +kernel
theorem dX9_removeTest_47 : decode cX9_removeTest 47 = .ok (.iload_n 2, 1) := by decide +kernel
theorem dX9_removeTest_48 : decode cX9_removeTest 48 = .ok (.iaload, 1) := by decide +kernel
theorem dX9_removeTest_49 : decode cX9_removeTest 49 = .ok (.istore_n 3, 1) := by decide +kernel
theorem dX9_removeTest_50 : decode cX9_removeTest 50 = .ok (.aload_n 0, 1) := by decide +kernel
theorem dX9_removeTest_51 : decode cX9_removeTest 51 = .ok (.getfield 12, 3) := by decide +kernel
theorem dX9_removeTest_54 : decode cX9_removeTest 54 = .ok (.getfield 87, 3) := by decide +kernel
theorem dX9_removeTest_57 : decode cX9_removeTest 57 = .ok (.iload_n 2, 1) := by decide +kernel
theorem dX9_removeTest_58 : decode cX9_removeTest 58 = .ok (.invokevirtual 125, 3) := by decide +kernel
theorem dX9_removeTest_61 : decode cX9_removeTest 61 = .ok (.aload_n 0, 1) := by decide +kernel
theorem dX9_removeTest_62 : decode cX9_removeTest 62 = .ok (.getfield 41, 3) := by decide +kernel
theorem dX9_removeTest_65 : decode cX9_removeTest 65 = .ok (.iload_n 1, 1) := by decide +kernel
theorem dX9_removeTest_66 : decode cX9_removeTest 66 = .ok (.invokevirtual 110, 3) := by decide +kernel
theorem dX9_removeTest_69 : decode cX9_removeTest 69 = .ok (.iload_n 3, 1) := by decide +kernel
theorem dX9_removeTest_70 : decode cX9_removeTest 70 = .ok (.ireturn, 1) := by decide +kernel
theorem dX9_testCount_0 : decode cX9_testCount 0 = .ok (.aload_n 0, 1) := by decide +kernel
theorem dX9_testCount_1 : decode cX9_testCount 1 = .ok (.getfield 12, 3) := by decide +kernel
theorem dX9_testCount_4 : decode cX9_testCount 4 = .ok (.getfield 87, 3) := by decide +kernel
theorem dX9_testCount_7 : decode cX9_testCount 7 = .ok (.getfield 91, 3) := by decide +kernel
theorem dX9_testCount_10 : decode cX9_testCount 10 = .ok (.ireturn, 1) := by decide +kernel
theorem dX9_thresholdOn_0 : decode cX9_thresholdOn 0 = .ok (.iload_n 1, 1) := by decide +kernel
theorem dX9_thresholdOn_1 : decode cX9_thresholdOn 1 = .ok (.iconst 0, 1) := by decide +kernel
theorem dX9_thresholdOn_2 : decode cX9_thresholdOn 2 = .ok (.sipush 199, 3) := by decide +kernel
theorem dX9_thresholdOn_5 : decode cX9_thresholdOn 5 = .ok (.invokestatic 65, 3) := by decide +kernel
theorem dX9_thresholdOn_8 : decode cX9_thresholdOn 8 = .ok (.aload_n 0, 1) := by decide +kernel
theorem dX9_thresholdOn_9 : decode cX9_thresholdOn 9 = .ok (.getfield 12, 3) := by decide +kernel
theorem dX9_thresholdOn_12 : decode cX9_thresholdOn 12 = .ok (.getfield 87, 3) := by decide +kernel
theorem dX9_thresholdOn_15 : decode cX9_thresholdOn 15 = .ok (.iload_n 1, 1) := by decide +kernel
theorem dX9_thresholdOn_16 : decode cX9_thresholdOn 16 = .ok (.invokevirtual 128, 3) := by decide +kernel
theorem dX9_thresholdOn_19 : decode cX9_thresholdOn 19 = .ok (.ireturn, 1) := by decide +kernel
theorem dX9_setBound_0 : decode cX9_setBound 0 = .ok (.iload_n 1, 1) := by decide +kernel
theorem dX9_setBound_1 : decode cX9_setBound 1 = .ok (.iconst 2, 1) := by decide +kernel
theorem dX9_setBound_2 : decode cX9_setBound 2 = .ok (.iconst 5, 1) := by decide +kernel
theorem dX9_setBound_3 : decode cX9_setBound 3 = .ok (.invokestatic 65, 3) := by decide +kernel
theorem dX9_setBound_6 : decode cX9_setBound 6 = .ok (.iload_n 2, 1) := by decide +kernel
theorem dX9_setBound_7 : decode cX9_setBound 7 = .ok (.iconst 1, 1) := by decide +kernel
theorem dX9_setBound_8 : decode cX9_setBound 8 = .ok (.sipush 300, 3) := by decide +kernel
theorem dX9_setBound_11 : decode cX9_setBound 11 = .ok (.invokestatic 65, 3) := by decide +kernel
theorem dX9_setBound_14 : decode cX9_setBound 14 = .ok (.aload_n 0, 1) := by decide +kernel
theorem dX9_setBound_15 : decode cX9_setBound 15 = .ok (.getfield 12, 3) := by decide +kernel
theorem dX9_setBound_18 : decode cX9_setBound 18 = .ok (.getfield 131, 3) := by decide +kernel
theorem dX9_setBound_21 : decode cX9_setBound 21 = .ok (.iload_n 1, 1) := by decide +kernel
theorem dX9_setBound_22 : decode cX9_setBound 22 = .ok (.iload_n 2, 1) := by decide +kernel
theorem dX9_setBound_23 : decode cX9_setBound 23 = .ok (.invokevirtual 135, 3) := by decide +kernel
theorem dX9_setBound_26 : decode cX9_setBound 26 = .ok (.ifCond .ne 13, 3) := by decide +kernel
theorem dX9_setBound_29 : decode cX9_setBound 29 = .ok (.new 72, 3) := by decide +kernel
theorem dX9_setBound_32 : decode cX9_setBound 32 = .ok (.dup, 1) := by decide +kernel
theorem dX9_setBound_33 : decode cX9_setBound 33 = .ok (.ldc 141, 2) := by decide +kernel
theorem dX9_setBound_35 : decode cX9_setBound 35 = .ok (.invokespecial 76, 3) := by decide +kernel
theorem dX9_setBound_38 : decode cX9_setBound 38 = .ok (.athrow, 1) := by decide +kernel
theorem dX9_setBound_39 : decode cX9_setBound 39 = .ok (.aload_n 0, 1) := by decide +kernel
theorem dX9_setBound_40 : decode cX9_setBound 40 = .ok (.getfield 19, 3) := by decide +kernel
theorem dX9_setBound_43 : decode cX9_setBound 43 = .ok (.aload_n 0, 1) := by decide +kernel
theorem dX9_setBound_44 : decode cX9_setBound 44 = .ok (.getfield 12, 3) := by decide +kernel
theorem dX9_setBound_47 : decode cX9_setBound 47 = .ok (.invokevirtual 79, 3) := by decide +kernel
theorem dX9_setBound_50 : decode cX9_setBound 50 = .ok (.aload_n 0, 1) := by decide +kernel
theorem dX9_setBound_51 : decode cX9_setBound 51 = .ok (.getfield 12, 3) := by decide +kernel
theorem dX9_setBound_54 : decode cX9_setBound 54 = .ok (.getfield 131, 3) := by decide +kernel
theorem dX9_setBound_57 : decode cX9_setBound 57 = .ok (.getfield 143, 3) := by decide +kernel
theorem dX9_setBound_60 : decode cX9_setBound 60 = .ok (.iload_n 1, 1) := by decide +kernel
theorem dX9_setBound_61 : decode cX9_setBound 61 = .ok (.iaload, 1) := by decide +kernel
theorem dX9_setBound_62 : decode cX9_setBound 62 = .ok (.istore_n 3, 1) := by decide +kernel
theorem dX9_setBound_63 : decode cX9_setBound 63 = .ok (.aload_n 0, 1) := by decide +kernel
theorem dX9_setBound_64 : decode cX9_setBound 64 = .ok (.getfield 12, 3) := by decide +kernel
theorem dX9_setBound_67 : decode cX9_setBound 67 = .ok (.getfield 131, 3) := by decide +kernel
theorem dX9_setBound_70 : decode cX9_setBound 70 = .ok (.getfield 143, 3) := by decide +kernel
theorem dX9_setBound_73 : decode cX9_setBound 73 = .ok (.iload_n 1, 1) := by decide +kernel
theorem dX9_setBound_74 : decode cX9_setBound 74 = .ok (.iload_n 2, 1) := by decide +kernel
theorem dX9_setBound_75 : decode cX9_setBound 75 = .ok (.iastore, 1) := by decide +kernel
theorem dX9_setBound_76 : decode cX9_setBound 76 = .ok (.aload_n 0, 1) := by decide +kernel
theorem dX9_setBound_77 : decode cX9_setBound 77 = .ok (.getfield 41, 3) := by decide +kernel
theorem dX9_setBound_80 : decode cX9_setBound 80 = .ok (.iconst 0, 1) := by decide +kernel
theorem dX9_setBound_81 : decode cX9_setBound 81 = .ok (.invokevirtual 110, 3) := by decide +kernel
theorem dX9_setBound_84 : decode cX9_setBound 84 = .ok (.iload_n 3, 1) := by decide +kernel
theorem dX9_setBound_85 : decode cX9_setBound 85 = .ok (.ireturn, 1) := by decide +kernel
theorem dX9_boundOf_0 : decode cX9_boundOf 0 = .ok (.iload_n 1, 1) := by decide +kernel
theorem dX9_boundOf_1 : decode cX9_boundOf 1 = .ok (.iconst 2, 1) := by decide +kernel
theorem dX9_boundOf_2 : decode cX9_boundOf 2 = .ok (.iconst 5, 1) := by decide +kernel
theorem dX9_boundOf_3 : decode cX9_boundOf 3 = .ok (.invokestatic 65, 3) := by decide +kernel
theorem dX9_boundOf_6 : decode cX9_boundOf 6 = .ok (.aload_n 0, 1) := by decide +kernel
theorem dX9_boundOf_7 : decode cX9_boundOf 7 = .ok (.getfield 12, 3) := by decide +kernel
theorem dX9_boundOf_10 : decode cX9_boundOf 10 = .ok (.getfield 131, 3) := by decide +kernel
theorem dX9_boundOf_13 : decode cX9_boundOf 13 = .ok (.getfield 143, 3) := by decide +kernel
theorem dX9_boundOf_16 : decode cX9_boundOf 16 = .ok (.iload_n 1, 1) := by decide +kernel
theorem dX9_boundOf_17 : decode cX9_boundOf 17 = .ok (.iaload, 1) := by decide +kernel
theorem dX9_boundOf_18 : decode cX9_boundOf 18 = .ok (.ireturn, 1) := by decide +kernel
theorem dX9_setWeight_0 : decode cX9_setWeight 0 = .ok (.iload_n 1, 1) := by decide +kernel
theorem dX9_setWeight_1 : decode cX9_setWeight 1 = .ok (.invokestatic 146, 3) := by decide +kernel
theorem dX9_setWeight_4 : decode cX9_setWeight 4 = .ok (.iload_n 2, 1) := by decide +kernel
theorem dX9_setWeight_5 : decode cX9_setWeight 5 = .ok (.iconst 0, 1) := by decide +kernel
theorem dX9_setWeight_6 : decode cX9_setWeight 6 = .ok (.bipush 100, 2) := by decide +kernel
theorem dX9_setWeight_8 : decode cX9_setWeight 8 = .ok (.invokestatic 65, 3) := by decide +kernel
theorem dX9_setWeight_11 : decode cX9_setWeight 11 = .ok (.aload_n 0, 1) := by decide +kernel
theorem dX9_setWeight_12 : decode cX9_setWeight 12 = .ok (.getfield 19, 3) := by decide +kernel
theorem dX9_setWeight_15 : decode cX9_setWeight 15 = .ok (.aload_n 0, 1) := by decide +kernel
theorem dX9_setWeight_16 : decode cX9_setWeight 16 = .ok (.getfield 12, 3) := by decide +kernel
theorem dX9_setWeight_19 : decode cX9_setWeight 19 = .ok (.invokevirtual 79, 3) := by decide +kernel
theorem dX9_setWeight_22 : decode cX9_setWeight 22 = .ok (.aload_n 0, 1) := by decide +kernel
theorem dX9_setWeight_23 : decode cX9_setWeight 23 = .ok (.getfield 12, 3) := by decide +kernel
theorem dX9_setWeight_26 : decode cX9_setWeight 26 = .ok (.getfield 131, 3) := by decide +kernel
theorem dX9_setWeight_29 : decode cX9_setWeight 29 = .ok (.getfield 149, 3) := by decide +kernel
theorem dX9_setWeight_32 : decode cX9_setWeight 32 = .ok (.iload_n 1, 1) := by decide +kernel
theorem dX9_setWeight_33 : decode cX9_setWeight 33 = .ok (.iaload, 1) := by decide +kernel
theorem dX9_setWeight_34 : decode cX9_setWeight 34 = .ok (.istore_n 3, 1) := by decide +kernel
theorem dX9_setWeight_35 : decode cX9_setWeight 35 = .ok (.aload_n 0, 1) := by decide +kernel
theorem dX9_setWeight_36 : decode cX9_setWeight 36 = .ok (.getfield 12, 3) := by decide +kernel
theorem dX9_setWeight_39 : decode cX9_setWeight 39 = .ok (.getfield 131, 3) := by decide +kernel
theorem dX9_setWeight_42 : decode cX9_setWeight 42 = .ok (.getfield 149, 3) := by decide +kernel
theorem dX9_setWeight_45 : decode cX9_setWeight 45 = .ok (.iload_n 1, 1) := by decide +kernel
theorem dX9_setWeight_46 : decode cX9_setWeight 46 = .ok (.iload_n 2, 1) := by decide +kernel
theorem dX9_setWeight_47 : decode cX9_setWeight 47 = .ok (.iastore, 1) := by decide +kernel
theorem dX9_setWeight_48 : decode cX9_setWeight 48 = .ok (.aload_n 0, 1) := by decide +kernel
theorem dX9_setWeight_49 : decode cX9_setWeight 49 = .ok (.getfield 41, 3) := by decide +kernel
theorem dX9_setWeight_52 : decode cX9_setWeight 52 = .ok (.iconst 0, 1) := by decide +kernel
theorem dX9_setWeight_53 : decode cX9_setWeight 53 = .ok (.invokevirtual 110, 3) := by decide +kernel
theorem dX9_setWeight_56 : decode cX9_setWeight 56 = .ok (.iload_n 3, 1) := by decide +kernel
theorem dX9_setWeight_57 : decode cX9_setWeight 57 = .ok (.ireturn, 1) := by decide +kernel
theorem dX9_weightOf_0 : decode cX9_weightOf 0 = .ok (.iload_n 1, 1) := by decide +kernel
theorem dX9_weightOf_1 : decode cX9_weightOf 1 = .ok (.invokestatic 146, 3) := by decide +kernel
theorem dX9_weightOf_4 : decode cX9_weightOf 4 = .ok (.aload_n 0, 1) := by decide +kernel
theorem dX9_weightOf_5 : decode cX9_weightOf 5 = .ok (.getfield 12, 3) := by decide +kernel
theorem dX9_weightOf_8 : decode cX9_weightOf 8 = .ok (.getfield 131, 3) := by decide +kernel
theorem dX9_weightOf_11 : decode cX9_weightOf 11 = .ok (.getfield 149, 3) := by decide +kernel
theorem dX9_weightOf_14 : decode cX9_weightOf 14 = .ok (.iload_n 1, 1) := by decide +kernel
theorem dX9_weightOf_15 : decode cX9_weightOf 15 = .ok (.iaload, 1) := by decide +kernel
theorem dX9_weightOf_16 : decode cX9_weightOf 16 = .ok (.ireturn, 1) := by decide +kernel
theorem dX9_zoneOf_0 : decode cX9_zoneOf 0 = .ok (.iload_n 1, 1) := by decide +kernel
theorem dX9_zoneOf_1 : decode cX9_zoneOf 1 = .ok (.iconst 0, 1) := by decide +kernel
theorem dX9_zoneOf_2 : decode cX9_zoneOf 2 = .ok (.sipush 199, 3) := by decide +kernel
theorem dX9_zoneOf_5 : decode cX9_zoneOf 5 = .ok (.invokestatic 65, 3) := by decide +kernel
theorem dX9_zoneOf_8 : decode cX9_zoneOf 8 = .ok (.iload_n 2, 1) := by decide +kernel
theorem dX9_zoneOf_9 : decode cX9_zoneOf 9 = .ok (.iconst 0, 1) := by decide +kernel
theorem dX9_zoneOf_10 : decode cX9_zoneOf 10 = .ok (.sipush 500, 3) := by decide +kernel
theorem dX9_zoneOf_13 : decode cX9_zoneOf 13 = .ok (.invokestatic 65, 3) := by decide +kernel
theorem dX9_zoneOf_16 : decode cX9_zoneOf 16 = .ok (.aload_n 0, 1) := by decide +kernel
theorem dX9_zoneOf_17 : decode cX9_zoneOf 17 = .ok (.getfield 12, 3) := by decide +kernel
theorem dX9_zoneOf_20 : decode cX9_zoneOf 20 = .ok (.getfield 131, 3) := by decide +kernel
theorem dX9_zoneOf_23 : decode cX9_zoneOf 23 = .ok (.iload_n 2, 1) := by decide +kernel
theorem dX9_zoneOf_24 : decode cX9_zoneOf 24 = .ok (.aload_n 0, 1) := by decide +kernel
theorem dX9_zoneOf_25 : decode cX9_zoneOf 25 = .ok (.getfield 12, 3) := by decide +kernel
theorem dX9_zoneOf_28 : decode cX9_zoneOf 28 = .ok (.getfield 87, 3) := by decide +kernel
theorem dX9_zoneOf_31 : decode cX9_zoneOf 31 = .ok (.iload_n 1, 1) := by decide +kernel
theorem dX9_zoneOf_32 : decode cX9_zoneOf 32 = .ok (.invokevirtual 128, 3) := by decide +kernel
theorem dX9_zoneOf_35 : decode cX9_zoneOf 35 = .ok (.invokevirtual 152, 3) := by decide +kernel
theorem dX9_zoneOf_38 : decode cX9_zoneOf 38 = .ok (.ireturn, 1) := by decide +kernel
theorem dX9_addSession_0 : decode cX9_addSession 0 = .ok (.aload_n 0, 1) := by decide +kernel
theorem dX9_addSession_1 : decode cX9_addSession 1 = .ok (.iload_n 1, 1) := by decide +kernel
theorem dX9_addSession_2 : decode cX9_addSession 2 = .ok (.invokevirtual 83, 3) := by decide +kernel
theorem dX9_addSession_5 : decode cX9_addSession 5 = .ok (.aload_n 0, 1) := by decide +kernel
theorem dX9_addSession_6 : decode cX9_addSession 6 = .ok (.getfield 12, 3) := by decide +kernel
theorem dX9_addSession_9 : decode cX9_addSession 9 = .ok (.getfield 156, 3) := by decide +kernel
theorem dX9_addSession_12 : decode cX9_addSession 12 = .ok (.getfield 160, 3) := by decide +kernel
theorem dX9_addSession_15 : decode cX9_addSession 15 = .ok (.bipush 40, 2) := by decide +kernel
theorem dX9_addSession_17 : decode cX9_addSession 17 = .ok (.if_icmp .lt 13, 3) := by decide +kernel
theorem dX9_addSession_20 : decode cX9_addSession 20 = .ok (.new 72, 3) := by decide +kernel
theorem dX9_addSession_23 : decode cX9_addSession 23 = .ok (.dup, 1) := by decide +kernel
theorem dX9_addSession_24 : decode cX9_addSession 24 = .ok (.ldc 163, 2) := by decide +kernel
theorem dX9_addSession_26 : decode cX9_addSession 26 = .ok (.invokespecial 76, 3) := by decide +kernel
theorem dX9_addSession_29 : decode cX9_addSession 29 = .ok (.athrow, 1) := by decide +kernel
theorem dX9_addSession_30 : decode cX9_addSession 30 = .ok (.aload_n 0, 1) := by decide +kernel
theorem dX9_addSession_31 : decode cX9_addSession 31 = .ok (.getfield 19, 3) := by decide +kernel
theorem dX9_addSession_34 : decode cX9_addSession 34 = .ok (.aload_n 0, 1) := by decide +kernel
theorem dX9_addSession_35 : decode cX9_addSession 35 = .ok (.getfield 12, 3) := by decide +kernel
theorem dX9_addSession_38 : decode cX9_addSession 38 = .ok (.invokevirtual 79, 3) := by decide +kernel
theorem dX9_addSession_41 : decode cX9_addSession 41 = .ok (.aload_n 0, 1) := by decide +kernel
theorem dX9_addSession_42 : decode cX9_addSession 42 = .ok (.getfield 12, 3) := by decide +kernel
theorem dX9_addSession_45 : decode cX9_addSession 45 = .ok (.getfield 156, 3) := by decide +kernel
theorem dX9_addSession_48 : decode cX9_addSession 48 = .ok (.iload_n 1, 1) := by decide +kernel
theorem dX9_addSession_49 : decode cX9_addSession 49 = .ok (.invokevirtual 165, 3) := by decide +kernel
theorem dX9_addSession_52 : decode cX9_addSession 52 = .ok (.ireturn, 1) := by decide +kernel
theorem dX9_addPart_0 : decode cX9_addPart 0 = .ok (.aload_n 0, 1) := by decide +kernel
theorem dX9_addPart_1 : decode cX9_addPart 1 = .ok (.iload_n 1, 1) := by decide +kernel
theorem dX9_addPart_2 : decode cX9_addPart 2 = .ok (.invokevirtual 168, 3) := by decide +kernel
theorem dX9_addPart_5 : decode cX9_addPart 5 = .ok (.astore 4, 2) := by decide +kernel
theorem dX9_addPart_7 : decode cX9_addPart 7 = .ok (.iload_n 2, 1) := by decide +kernel
theorem dX9_addPart_8 : decode cX9_addPart 8 = .ok (.iconst 1, 1) := by decide +kernel
theorem dX9_addPart_9 : decode cX9_addPart 9 = .ok (.bipush 120, 2) := by decide +kernel
theorem dX9_addPart_11 : decode cX9_addPart 11 = .ok (.invokestatic 65, 3) := by decide +kernel
theorem dX9_addPart_14 : decode cX9_addPart 14 = .ok (.iload_n 3, 1) := by decide +kernel
theorem dX9_addPart_15 : decode cX9_addPart 15 = .ok (.iconst 0, 1) := by decide +kernel
theorem dX9_addPart_16 : decode cX9_addPart 16 = .ok (.sipush 500, 3) := by decide +kernel
theorem dX9_addPart_19 : decode cX9_addPart 19 = .ok (.invokestatic 65, 3) := by decide +kernel
theorem dX9_addPart_22 : decode cX9_addPart 22 = .ok (.aload 4, 2) := by decide +kernel
theorem dX9_addPart_24 : decode cX9_addPart 24 = .ok (.getfield 172, 3) := by decide +kernel
theorem dX9_addPart_27 : decode cX9_addPart 27 = .ok (.bipush 8, 2) := by decide +kernel
theorem dX9_addPart_29 : decode cX9_addPart 29 = .ok (.if_icmp .ge 16, 3) := by decide +kernel
theorem dX9_addPart_32 : decode cX9_addPart 32 = .ok (.aload 4, 2) := by decide +kernel
theorem dX9_addPart_34 : decode cX9_addPart 34 = .ok (.invokevirtual 177, 3) := by decide +kernel
theorem dX9_addPart_37 : decode cX9_addPart 37 = .ok (.iload_n 2, 1) := by decide +kernel
theorem dX9_addPart_38 : decode cX9_addPart 38 = .ok (.iadd, 1) := by decide +kernel
theorem dX9_addPart_39 : decode cX9_addPart 39 = .ok (.sipush 240, 3) := by decide +kernel
theorem dX9_addPart_42 : decode cX9_addPart 42 = .ok (.if_icmp .le 13, 3) := by decide +kernel
theorem dX9_addPart_45 : decode cX9_addPart 45 = .ok (.new 72, 3) := by decide +kernel
theorem dX9_addPart_48 : decode cX9_addPart 48 = .ok (.dup, 1) := by decide +kernel
theorem dX9_addPart_49 : decode cX9_addPart 49 = .ok (.ldc 181, 2) := by decide +kernel
theorem dX9_addPart_51 : decode cX9_addPart 51 = .ok (.invokespecial 76, 3) := by decide +kernel
theorem dX9_addPart_54 : decode cX9_addPart 54 = .ok (.athrow, 1) := by decide +kernel
theorem dX9_addPart_55 : decode cX9_addPart 55 = .ok (.aload_n 0, 1) := by decide +kernel
theorem dX9_addPart_56 : decode cX9_addPart 56 = .ok (.getfield 19, 3) := by decide +kernel
theorem dX9_addPart_59 : decode cX9_addPart 59 = .ok (.aload_n 0, 1) := by decide +kernel
theorem dX9_addPart_60 : decode cX9_addPart 60 = .ok (.getfield 12, 3) := by decide +kernel
theorem dX9_addPart_63 : decode cX9_addPart 63 = .ok (.invokevirtual 79, 3) := by decide +kernel
theorem dX9_addPart_66 : decode cX9_addPart 66 = .ok (.aload 4, 2) := by decide +kernel
theorem dX9_addPart_68 : decode cX9_addPart 68 = .ok (.iload_n 2, 1) := by decide +kernel
theorem dX9_addPart_69 : decode cX9_addPart 69 = .ok (.iload_n 3, 1) := by decide +kernel
theorem dX9_addPart_70 : decode cX9_addPart 70 = .ok (.invokevirtual 183, 3) := by decide +kernel
theorem dX9_addPart_73 : decode cX9_addPart 73 = .ok (.aload_n 0, 1) := by decide +kernel
theorem dX9_addPart_74 : decode cX9_addPart 74 = .ok (.getfield 41, 3) := by decide +kernel
theorem dX9_addPart_77 : decode cX9_addPart 77 = .ok (.aload 4, 2) := by decide +kernel
theorem dX9_addPart_79 : decode cX9_addPart 79 = .ok (.getfield 184, 3) := by decide +kernel
theorem dX9_addPart_82 : decode cX9_addPart 82 = .ok (.invokevirtual 110, 3) := by decide +kernel
theorem dX9_addPart_85 : decode cX9_addPart 85 = .ok (.aload 4, 2) := by decide +kernel
theorem dX9_addPart_87 : decode cX9_addPart 87 = .ok (.getfield 172, 3) := by decide +kernel
theorem dX9_addPart_90 : decode cX9_addPart 90 = .ok (.ireturn, 1) := by decide +kernel
theorem dX9_clearParts_0 : decode cX9_clearParts 0 = .ok (.aload_n 0, 1) := by decide +kernel
theorem dX9_clearParts_1 : decode cX9_clearParts 1 = .ok (.iload_n 1, 1) := by decide +kernel
theorem dX9_clearParts_2 : decode cX9_clearParts 2 = .ok (.invokevirtual 168, 3) := by decide +kernel
theorem dX9_clearParts_5 : decode cX9_clearParts 5 = .ok (.astore_n 2, 1) := by decide +kernel
theorem dX9_clearParts_6 : decode cX9_clearParts 6 = .ok (.aload_n 0, 1) := by decide +kernel
theorem dX9_clearParts_7 : decode cX9_clearParts 7 = .ok (.getfield 19, 3) := by decide +kernel
theorem dX9_clearParts_10 : decode cX9_clearParts 10 = .ok (.aload_n 0, 1) := by decide +kernel
theorem dX9_clearParts_11 : decode cX9_clearParts 11 = .ok (.getfield 12, 3) := by decide +kernel
theorem dX9_clearParts_14 : decode cX9_clearParts 14 = .ok (.invokevirtual 79, 3) := by decide +kernel
theorem dX9_clearParts_17 : decode cX9_clearParts 17 = .ok (.aload_n 2, 1) := by decide +kernel
theorem dX9_clearParts_18 : decode cX9_clearParts 18 = .ok (.getfield 172, 3) := by decide +kernel
theorem dX9_clearParts_21 : decode cX9_clearParts 21 = .ok (.istore_n 3, 1) := by decide +kernel
theorem dX9_clearParts_22 : decode cX9_clearParts 22 = .ok (.aload_n 2, 1) := by decide +kernel
theorem dX9_clearParts_23 : decode cX9_clearParts 23 = .ok (.iconst 0, 1) := by decide +kernel
theorem dX9_clearParts_24 : decode cX9_clearParts 24 = .ok (.putfield 172, 3) := by decide +kernel
theorem dX9_clearParts_27 : decode cX9_clearParts 27 = .ok (.aload_n 0, 1) := by decide +kernel
theorem dX9_clearParts_28 : decode cX9_clearParts 28 = .ok (.getfield 41, 3) := by decide +kernel
theorem dX9_clearParts_31 : decode cX9_clearParts 31 = .ok (.aload_n 2, 1) := by decide +kernel
theorem dX9_clearParts_32 : decode cX9_clearParts 32 = .ok (.getfield 184, 3) := by decide +kernel
theorem dX9_clearParts_35 : decode cX9_clearParts 35 = .ok (.invokevirtual 110, 3) := by decide +kernel
theorem dX9_clearParts_38 : decode cX9_clearParts 38 = .ok (.iload_n 3, 1) := by decide +kernel
theorem dX9_clearParts_39 : decode cX9_clearParts 39 = .ok (.ireturn, 1) := by decide +kernel
theorem dX9_moveSession_0 : decode cX9_moveSession 0 = .ok (.aload_n 0, 1) := by decide +kernel
theorem dX9_moveSession_1 : decode cX9_moveSession 1 = .ok (.iload_n 1, 1) := by decide +kernel
theorem dX9_moveSession_2 : decode cX9_moveSession 2 = .ok (.invokevirtual 187, 3) := by decide +kernel
theorem dX9_moveSession_5 : decode cX9_moveSession 5 = .ok (.istore_n 3, 1) := by decide +kernel
theorem dX9_moveSession_6 : decode cX9_moveSession 6 = .ok (.aload_n 0, 1) := by decide +kernel
theorem dX9_moveSession_7 : decode cX9_moveSession 7 = .ok (.iload_n 2, 1) := by decide +kernel
theorem dX9_moveSession_8 : decode cX9_moveSession 8 = .ok (.invokevirtual 83, 3) := by decide +kernel
theorem dX9_moveSession_11 : decode cX9_moveSession 11 = .ok (.aload_n 0, 1) := by decide +kernel
theorem dX9_moveSession_12 : decode cX9_moveSession 12 = .ok (.getfield 19, 3) := by decide +kernel
theorem dX9_moveSession_15 : decode cX9_moveSession 15 = .ok (.aload_n 0, 1) := by decide +kernel
theorem dX9_moveSession_16 : decode cX9_moveSession 16 = .ok (.getfield 12, 3) := by decide +kernel
theorem dX9_moveSession_19 : decode cX9_moveSession 19 = .ok (.invokevirtual 79, 3) := by decide +kernel
theorem dX9_moveSession_22 : decode cX9_moveSession 22 = .ok (.aload_n 0, 1) := by decide +kernel
theorem dX9_moveSession_23 : decode cX9_moveSession 23 = .ok (.getfield 12, 3) := by decide +kernel
theorem dX9_moveSession_26 : decode cX9_moveSession 26 = .ok (.getfield 156, 3) := by decide +kernel
theorem dX9_moveSession_29 : decode cX9_moveSession 29 = .ok (.iload_n 3, 1) := by decide +kernel
theorem dX9_moveSession_30 : decode cX9_moveSession 30 = .ok (.iload_n 2, 1) := by decide +kernel
theorem dX9_moveSession_31 : decode cX9_moveSession 31 = .ok (.invokevirtual 190, 3) := by decide +kernel
theorem dX9_moveSession_34 : decode cX9_moveSession 34 = .ok (.istore 4, 2) := by decide +kernel
theorem dX9_moveSession_36 : decode cX9_moveSession 36 = .ok (.aload_n 0, 1) := by decide +kernel
theorem dX9_moveSession_37 : decode cX9_moveSession 37 = .ok (.getfield 41, 3) := by decide +kernel
theorem dX9_moveSession_40 : decode cX9_moveSession 40 = .ok (.iload 4, 2) := by decide +kernel
theorem dX9_moveSession_42 : decode cX9_moveSession 42 = .ok (.iload_n 2, 1) := by decide +kernel
theorem dX9_moveSession_43 : decode cX9_moveSession 43 = .ok (.invokestatic 193, 3) := by decide +kernel
theorem dX9_moveSession_46 : decode cX9_moveSession 46 = .ok (.invokevirtual 110, 3) := by decide +kernel
theorem dX9_moveSession_49 : decode cX9_moveSession 49 = .ok (.iload 4, 2) := by decide +kernel
theorem dX9_moveSession_51 : decode cX9_moveSession 51 = .ok (.ireturn, 1) := by decide +kernel
theorem dX9_removeSession_0 : decode cX9_removeSession 0 = .ok (.aload_n 0, 1) := by decide +kernel
theorem dX9_removeSession_1 : decode cX9_removeSession 1 = .ok (.iload_n 1, 1) := by decide +kernel
theorem dX9_removeSession_2 : decode cX9_removeSession 2 = .ok (.invokevirtual 187, 3) := by decide +kernel
theorem dX9_removeSession_5 : decode cX9_removeSession 5 = .ok (.istore_n 2, 1) := by decide +kernel
theorem dX9_removeSession_6 : decode cX9_removeSession 6 = .ok (.aload_n 0, 1) := by decide +kernel
theorem dX9_removeSession_7 : decode cX9_removeSession 7 = .ok (.getfield 19, 3) := by decide +kernel
theorem dX9_removeSession_10 : decode cX9_removeSession 10 = .ok (.aload_n 0, 1) := by decide +kernel
theorem dX9_removeSession_11 : decode cX9_removeSession 11 = .ok (.getfield 12, 3) := by decide +kernel
theorem dX9_removeSession_14 : decode cX9_removeSession 14 = .ok (.invokevirtual 79, 3) := by decide +kernel
theorem dX9_removeSession_17 : decode cX9_removeSession 17 = .ok (.aload_n 0, 1) := by decide +kernel
theorem dX9_removeSession_18 : decode cX9_removeSession 18 = .ok (.getfield 12, 3) := by decide +kernel
theorem dX9_removeSession_21 : decode cX9_removeSession 21 = .ok (.getfield 156, 3) := by decide +kernel
theorem dX9_removeSession_24 : decode cX9_removeSession 24 = .ok (.iload_n 2, 1) := by decide +kernel
theorem dX9_removeSession_25 : decode cX9_removeSession 25 = .ok (.invokevirtual 198, 3) := by decide +kernel
theorem dX9_removeSession_28 : decode cX9_removeSession 28 = .ok (.istore_n 3, 1) := by decide +kernel
theorem dX9_removeSession_29 : decode cX9_removeSession 29 = .ok (.aload_n 0, 1) := by decide +kernel
theorem dX9_removeSession_30 : decode cX9_removeSession 30 = .ok (.getfield 41, 3) := by decide +kernel
theorem dX9_removeSession_33 : decode cX9_removeSession 33 = .ok (.iload_n 3, 1) := by decide +kernel
theorem dX9_removeSession_34 : decode cX9_removeSession 34 = .ok (.invokevirtual 110, 3) := by decide +kernel
theorem dX9_removeSession_37 : decode cX9_removeSession 37 = .ok (.aload_n 0, 1) := by decide +kernel
theorem dX9_removeSession_38 : decode cX9_removeSession 38 = .ok (.getfield 12, 3) := by decide +kernel
theorem dX9_removeSession_41 : decode cX9_removeSession 41 = .ok (.getfield 156, 3) := by decide +kernel
theorem dX9_removeSession_44 : decode cX9_removeSession 44 = .ok (.getfield 160, 3) := by decide +kernel
theorem dX9_removeSession_47 : decode cX9_removeSession 47 = .ok (.ireturn, 1) := by decide +kernel
theorem dX9_sessionCount_0 : decode cX9_sessionCount 0 = .ok (.aload_n 0, 1) := by decide +kernel
theorem dX9_sessionCount_1 : decode cX9_sessionCount 1 = .ok (.getfield 12, 3) := by decide +kernel
theorem dX9_sessionCount_4 : decode cX9_sessionCount 4 = .ok (.getfield 156, 3) := by decide +kernel
theorem dX9_sessionCount_7 : decode cX9_sessionCount 7 = .ok (.getfield 160, 3) := by decide +kernel
theorem dX9_sessionCount_10 : decode cX9_sessionCount 10 = .ok (.ireturn, 1) := by decide +kernel
theorem dX9_sessionAt_0 : decode cX9_sessionAt 0 = .ok (.iload_n 1, 1) := by decide +kernel
theorem dX9_sessionAt_1 : decode cX9_sessionAt 1 = .ok (.ifCond .lt 17, 3) := by decide +kernel
theorem dX9_sessionAt_4 : decode cX9_sessionAt 4 = .ok (.iload_n 1, 1) := by decide +kernel
theorem dX9_sessionAt_5 : decode cX9_sessionAt 5 = .ok (.aload_n 0, 1) := by decide +kernel
theorem dX9_sessionAt_6 : decode cX9_sessionAt 6 = .ok (.getfield 12, 3) := by decide +kernel
theorem dX9_sessionAt_9 : decode cX9_sessionAt 9 = .ok (.getfield 156, 3) := by decide +kernel
theorem dX9_sessionAt_12 : decode cX9_sessionAt 12 = .ok (.getfield 160, 3) := by decide +kernel
theorem dX9_sessionAt_15 : decode cX9_sessionAt 15 = .ok (.if_icmp .lt 13, 3) := by decide +kernel
theorem dX9_sessionAt_18 : decode cX9_sessionAt 18 = .ok (.new 200, 3) := by decide +kernel
theorem dX9_sessionAt_21 : decode cX9_sessionAt 21 = .ok (.dup, 1) := by decide +kernel
theorem dX9_sessionAt_22 : decode cX9_sessionAt 22 = .ok (.ldc 202, 2) := by decide +kernel
theorem dX9_sessionAt_24 : decode cX9_sessionAt 24 = .ok (.invokespecial 204, 3) := by decide +kernel
theorem dX9_sessionAt_27 : decode cX9_sessionAt 27 = .ok (.athrow, 1) := by decide +kernel
theorem dX9_sessionAt_28 : decode cX9_sessionAt 28 = .ok (.aload_n 0, 1) := by decide +kernel
theorem dX9_sessionAt_29 : decode cX9_sessionAt 29 = .ok (.getfield 12, 3) := by decide +kernel
theorem dX9_sessionAt_32 : decode cX9_sessionAt 32 = .ok (.getfield 156, 3) := by decide +kernel
theorem dX9_sessionAt_35 : decode cX9_sessionAt 35 = .ok (.getfield 205, 3) := by decide +kernel
theorem dX9_sessionAt_38 : decode cX9_sessionAt 38 = .ok (.iload_n 1, 1) := by decide +kernel
theorem dX9_sessionAt_39 : decode cX9_sessionAt 39 = .ok (.aaload, 1) := by decide +kernel
theorem dX9_sessionAt_40 : decode cX9_sessionAt 40 = .ok (.getfield 209, 3) := by decide +kernel
theorem dX9_sessionAt_43 : decode cX9_sessionAt 43 = .ok (.ireturn, 1) := by decide +kernel
theorem dX9_dayOf_0 : decode cX9_dayOf 0 = .ok (.aload_n 0, 1) := by decide +kernel
theorem dX9_dayOf_1 : decode cX9_dayOf 1 = .ok (.iload_n 1, 1) := by decide +kernel
theorem dX9_dayOf_2 : decode cX9_dayOf 2 = .ok (.invokevirtual 168, 3) := by decide +kernel
theorem dX9_dayOf_5 : decode cX9_dayOf 5 = .ok (.getfield 184, 3) := by decide +kernel
theorem dX9_dayOf_8 : decode cX9_dayOf 8 = .ok (.ireturn, 1) := by decide +kernel
theorem dX9_minutesOf_0 : decode cX9_minutesOf 0 = .ok (.aload_n 0, 1) := by decide +kernel
theorem dX9_minutesOf_1 : decode cX9_minutesOf 1 = .ok (.iload_n 1, 1) := by decide +kernel
theorem dX9_minutesOf_2 : decode cX9_minutesOf 2 = .ok (.invokevirtual 168, 3) := by decide +kernel
theorem dX9_minutesOf_5 : decode cX9_minutesOf 5 = .ok (.invokevirtual 177, 3) := by decide +kernel
theorem dX9_minutesOf_8 : decode cX9_minutesOf 8 = .ok (.ireturn, 1) := by decide +kernel
theorem dX9_minutesInZone_0 : decode cX9_minutesInZone 0 = .ok (.aload_n 0, 1) := by decide +kernel
theorem dX9_minutesInZone_1 : decode cX9_minutesInZone 1 = .ok (.iload_n 1, 1) := by decide +kernel
theorem dX9_minutesInZone_2 : decode cX9_minutesInZone 2 = .ok (.invokevirtual 168, 3) := by decide +kernel
theorem dX9_minutesInZone_5 : decode cX9_minutesInZone 5 = .ok (.astore_n 3, 1) := by decide +kernel
theorem dX9_minutesInZone_6 : decode cX9_minutesInZone 6 = .ok (.iload_n 2, 1) := by decide +kernel
theorem dX9_minutesInZone_7 : decode cX9_minutesInZone 7 = .ok (.invokestatic 146, 3) := by decide +kernel
theorem dX9_minutesInZone_10 : decode cX9_minutesInZone 10 = .ok (.aload_n 0, 1) := by decide +kernel
theorem dX9_minutesInZone_11 : decode cX9_minutesInZone 11 = .ok (.getfield 59, 3) := by decide +kernel
theorem dX9_minutesInZone_14 : decode cX9_minutesInZone 14 = .ok (.invokestatic 212, 3) := by decide +kernel
theorem dX9_minutesInZone_17 : decode cX9_minutesInZone 17 = .ok (.aload_n 0, 1) := by decide +kernel
theorem dX9_minutesInZone_18 : decode cX9_minutesInZone 18 = .ok (.getfield 12, 3) := by decide +kernel
theorem dX9_minutesInZone_21 : decode cX9_minutesInZone 21 = .ok (.aload_n 3, 1) := by decide +kernel
theorem dX9_minutesInZone_22 : decode cX9_minutesInZone 22 = .ok (.aload_n 0, 1) := by decide +kernel
theorem dX9_minutesInZone_23 : decode cX9_minutesInZone 23 = .ok (.getfield 59, 3) := by decide +kernel
theorem dX9_minutesInZone_26 : decode cX9_minutesInZone 26 = .ok (.invokevirtual 215, 3) := by decide +kernel
theorem dX9_minutesInZone_29 : decode cX9_minutesInZone 29 = .ok (.aload_n 0, 1) := by decide +kernel
theorem dX9_minutesInZone_30 : decode cX9_minutesInZone 30 = .ok (.getfield 59, 3) := by decide +kernel
theorem dX9_minutesInZone_33 : decode cX9_minutesInZone 33 = .ok (.iload_n 2, 1) := by decide +kernel
theorem dX9_minutesInZone_34 : decode cX9_minutesInZone 34 = .ok (.iaload, 1) := by decide +kernel
theorem dX9_minutesInZone_35 : decode cX9_minutesInZone 35 = .ok (.ireturn, 1) := by decide +kernel
theorem dX9_loadOf_0 : decode cX9_loadOf 0 = .ok (.aload_n 0, 1) := by decide +kernel
theorem dX9_loadOf_1 : decode cX9_loadOf 1 = .ok (.getfield 12, 3) := by decide +kernel
theorem dX9_loadOf_4 : decode cX9_loadOf 4 = .ok (.aload_n 0, 1) := by decide +kernel
theorem dX9_loadOf_5 : decode cX9_loadOf 5 = .ok (.iload_n 1, 1) := by decide +kernel
theorem dX9_loadOf_6 : decode cX9_loadOf 6 = .ok (.invokevirtual 168, 3) := by decide +kernel
theorem dX9_loadOf_9 : decode cX9_loadOf 9 = .ok (.invokevirtual 219, 3) := by decide +kernel
theorem dX9_loadOf_12 : decode cX9_loadOf 12 = .ok (.ireturn, 1) := by decide +kernel
theorem dX9_loadOn_0 : decode cX9_loadOn 0 = .ok (.aload_n 0, 1) := by decide +kernel
theorem dX9_loadOn_1 : decode cX9_loadOn 1 = .ok (.iload_n 1, 1) := by decide +kernel
theorem dX9_loadOn_2 : decode cX9_loadOn 2 = .ok (.invokevirtual 83, 3) := by decide +kernel
theorem dX9_loadOn_5 : decode cX9_loadOn 5 = .ok (.aload_n 0, 1) := by decide +kernel
theorem dX9_loadOn_6 : decode cX9_loadOn 6 = .ok (.getfield 12, 3) := by decide +kernel
theorem dX9_loadOn_9 : decode cX9_loadOn 9 = .ok (.aload_n 0, 1) := by decide +kernel
theorem dX9_loadOn_10 : decode cX9_loadOn 10 = .ok (.getfield 52, 3) := by decide +kernel
theorem dX9_loadOn_13 : decode cX9_loadOn 13 = .ok (.invokevirtual 223, 3) := by decide +kernel
theorem dX9_loadOn_16 : decode cX9_loadOn 16 = .ok (.aload_n 0, 1) := by decide +kernel
theorem dX9_loadOn_17 : decode cX9_loadOn 17 = .ok (.getfield 52, 3) := by decide +kernel
theorem dX9_loadOn_20 : decode cX9_loadOn 20 = .ok (.iload_n 1, 1) := by decide +kernel
theorem dX9_loadOn_21 : decode cX9_loadOn 21 = .ok (.iaload, 1) := by decide +kernel
theorem dX9_loadOn_22 : decode cX9_loadOn 22 = .ok (.ireturn, 1) := by decide +kernel
theorem dX9_zoneShare_0 : decode cX9_zoneShare 0 = .ok (.iload_n 1, 1) := by decide +kernel
theorem dX9_zoneShare_1 : decode cX9_zoneShare 1 = .ok (.invokestatic 146, 3) := by decide +kernel
theorem dX9_zoneShare_4 : decode cX9_zoneShare 4 = .ok (.aload_n 0, 1) := by decide +kernel
theorem dX9_zoneShare_5 : decode cX9_zoneShare 5 = .ok (.getfield 59, 3) := by decide +kernel
theorem dX9_zoneShare_8 : decode cX9_zoneShare 8 = .ok (.invokestatic 212, 3) := by decide +kernel
theorem dX9_zoneShare_11 : decode cX9_zoneShare 11 = .ok (.iconst 0, 1) := by decide +kernel
theorem dX9_zoneShare_12 : decode cX9_zoneShare 12 = .ok (.istore_n 2, 1) := by decide +kernel
theorem dX9_zoneShare_13 : decode cX9_zoneShare 13 = .ok (.iconst 0, 1) := by decide +kernel
theorem dX9_zoneShare_14 : decode cX9_zoneShare 14 = .ok (.istore_n 3, 1) := by decide +kernel
theorem dX9_zoneShare_15 : decode cX9_zoneShare 15 = .ok (.iload_n 3, 1) := by decide +kernel
theorem dX9_zoneShare_16 : decode cX9_zoneShare 16 = .ok (.aload_n 0, 1) := by decide +kernel
theorem dX9_zoneShare_17 : decode cX9_zoneShare 17 = .ok (.getfield 12, 3) := by decide +kernel
theorem dX9_zoneShare_20 : decode cX9_zoneShare 20 = .ok (.getfield 156, 3) := by decide +kernel
theorem dX9_zoneShare_23 : decode cX9_zoneShare 23 = .ok (.getfield 160, 3) := by decide +kernel
theorem dX9_zoneShare_26 : decode cX9_zoneShare 26 = .ok (.if_icmp .ge 44, 3) := by decide +kernel
theorem dX9_zoneShare_29 : decode cX9_zoneShare 29 = .ok (.aload_n 0, 1) := by decide +kernel
theorem dX9_zoneShare_30 : decode cX9_zoneShare 30 = .ok (.getfield 12, 3) := by decide +kernel
theorem dX9_zoneShare_33 : decode cX9_zoneShare 33 = .ok (.getfield 156, 3) := by decide +kernel
theorem dX9_zoneShare_36 : decode cX9_zoneShare 36 = .ok (.getfield 205, 3) := by decide +kernel
theorem dX9_zoneShare_39 : decode cX9_zoneShare 39 = .ok (.iload_n 3, 1) := by decide +kernel
theorem dX9_zoneShare_40 : decode cX9_zoneShare 40 = .ok (.aaload, 1) := by decide +kernel
theorem dX9_zoneShare_41 : decode cX9_zoneShare 41 = .ok (.astore 4, 2) := by decide +kernel
theorem dX9_zoneShare_43 : decode cX9_zoneShare 43 = .ok (.aload_n 0, 1) := by decide +kernel
theorem dX9_zoneShare_44 : decode cX9_zoneShare 44 = .ok (.getfield 12, 3) := by decide +kernel
theorem dX9_zoneShare_47 : decode cX9_zoneShare 47 = .ok (.aload 4, 2) := by decide +kernel
theorem dX9_zoneShare_49 : decode cX9_zoneShare 49 = .ok (.aload_n 0, 1) := by decide +kernel
theorem dX9_zoneShare_50 : decode cX9_zoneShare 50 = .ok (.getfield 59, 3) := by decide +kernel
theorem dX9_zoneShare_53 : decode cX9_zoneShare 53 = .ok (.invokevirtual 215, 3) := by decide +kernel
theorem dX9_zoneShare_56 : decode cX9_zoneShare 56 = .ok (.iload_n 2, 1) := by decide +kernel
theorem dX9_zoneShare_57 : decode cX9_zoneShare 57 = .ok (.aload 4, 2) := by decide +kernel
theorem dX9_zoneShare_59 : decode cX9_zoneShare 59 = .ok (.invokevirtual 177, 3) := by decide +kernel
theorem dX9_zoneShare_62 : decode cX9_zoneShare 62 = .ok (.iadd, 1) := by decide +kernel
theorem dX9_zoneShare_63 : decode cX9_zoneShare 63 = .ok (.istore_n 2, 1) := by decide +kernel
theorem dX9_zoneShare_64 : decode cX9_zoneShare 64 = .ok (.iinc 3 1, 3) := by decide +kernel
theorem dX9_zoneShare_67 : decode cX9_zoneShare 67 = .ok (.goto (-52), 3) := by decide +kernel
theorem dX9_zoneShare_70 : decode cX9_zoneShare 70 = .ok (.iload_n 2, 1) := by decide +kernel
theorem dX9_zoneShare_71 : decode cX9_zoneShare 71 = .ok (.ifCond .ne 13, 3) := by decide +kernel
theorem dX9_zoneShare_74 : decode cX9_zoneShare 74 = .ok (.new 226, 3) := by decide +kernel
theorem dX9_zoneShare_77 : decode cX9_zoneShare 77 = .ok (.dup, 1) := by decide +kernel
theorem dX9_zoneShare_78 : decode cX9_zoneShare 78 = .ok (.ldc 228, 2) := by decide +kernel
theorem dX9_zoneShare_80 : decode cX9_zoneShare 80 = .ok (.invokespecial 230, 3) := by decide +kernel
theorem dX9_zoneShare_83 : decode cX9_zoneShare 83 = .ok (.athrow, 1) := by decide +kernel
theorem dX9_zoneShare_84 : decode cX9_zoneShare 84 = .ok (.aload_n 0, 1) := by decide +kernel
theorem dX9_zoneShare_85 : decode cX9_zoneShare 85 = .ok (.getfield 59, 3) := by decide +kernel
theorem dX9_zoneShare_88 : decode cX9_zoneShare 88 = .ok (.iload_n 1, 1) := by decide +kernel
theorem dX9_zoneShare_89 : decode cX9_zoneShare 89 = .ok (.iaload, 1) := by decide +kernel
theorem dX9_zoneShare_90 : decode cX9_zoneShare 90 = .ok (.i2f, 1) := by decide +kernel
theorem dX9_zoneShare_91 : decode cX9_zoneShare 91 = .ok (.iload_n 2, 1) := by decide +kernel
theorem dX9_zoneShare_92 : decode cX9_zoneShare 92 = .ok (.i2f, 1) := by decide +kernel
theorem dX9_zoneShare_93 : decode cX9_zoneShare 93 = .ok (.fdiv, 1) := by decide +kernel
theorem dX9_zoneShare_94 : decode cX9_zoneShare 94 = .ok (.freturn, 1) := by decide +kernel
theorem dX9_meanLoad_0 : decode cX9_meanLoad 0 = .ok (.aload_n 0, 1) := by decide +kernel
theorem dX9_meanLoad_1 : decode cX9_meanLoad 1 = .ok (.getfield 12, 3) := by decide +kernel
theorem dX9_meanLoad_4 : decode cX9_meanLoad 4 = .ok (.aload_n 0, 1) := by decide +kernel
theorem dX9_meanLoad_5 : decode cX9_meanLoad 5 = .ok (.getfield 52, 3) := by decide +kernel
theorem dX9_meanLoad_8 : decode cX9_meanLoad 8 = .ok (.invokevirtual 223, 3) := by decide +kernel
theorem dX9_meanLoad_11 : decode cX9_meanLoad 11 = .ok (.aload_n 0, 1) := by decide +kernel
theorem dX9_meanLoad_12 : decode cX9_meanLoad 12 = .ok (.iconst 0, 1) := by decide +kernel
theorem dX9_meanLoad_13 : decode cX9_meanLoad 13 = .ok (.aload_n 0, 1) := by decide +kernel
theorem dX9_meanLoad_14 : decode cX9_meanLoad 14 = .ok (.getfield 12, 3) := by decide +kernel
theorem dX9_meanLoad_17 : decode cX9_meanLoad 17 = .ok (.getfield 69, 3) := by decide +kernel
theorem dX9_meanLoad_20 : decode cX9_meanLoad 20 = .ok (.iconst 1, 1) := by decide +kernel
theorem dX9_meanLoad_21 : decode cX9_meanLoad 21 = .ok (.iadd, 1) := by decide +kernel
theorem dX9_meanLoad_22 : decode cX9_meanLoad 22 = .ok (.invokevirtual 231, 3) := by decide +kernel
theorem dX9_meanLoad_25 : decode cX9_meanLoad 25 = .ok (.i2d, 1) := by decide +kernel
theorem dX9_meanLoad_26 : decode cX9_meanLoad 26 = .ok (.aload_n 0, 1) := by decide +kernel
theorem dX9_meanLoad_27 : decode cX9_meanLoad 27 = .ok (.getfield 12, 3) := by decide +kernel
theorem dX9_meanLoad_30 : decode cX9_meanLoad 30 = .ok (.getfield 69, 3) := by decide +kernel
theorem dX9_meanLoad_33 : decode cX9_meanLoad 33 = .ok (.iconst 1, 1) := by decide +kernel
theorem dX9_meanLoad_34 : decode cX9_meanLoad 34 = .ok (.iadd, 1) := by decide +kernel
theorem dX9_meanLoad_35 : decode cX9_meanLoad 35 = .ok (.i2d, 1) := by decide +kernel
theorem dX9_meanLoad_36 : decode cX9_meanLoad 36 = .ok (.ddiv, 1) := by decide +kernel
theorem dX9_meanLoad_37 : decode cX9_meanLoad 37 = .ok (.dreturn, 1) := by decide +kernel
theorem dX9_fitnessOn_0 : decode cX9_fitnessOn 0 = .ok (.aload_n 0, 1) := by decide +kernel
theorem dX9_fitnessOn_1 : decode cX9_fitnessOn 1 = .ok (.iload_n 1, 1) := by decide +kernel
theorem dX9_fitnessOn_2 : decode cX9_fitnessOn 2 = .ok (.invokevirtual 83, 3) := by decide +kernel
theorem dX9_fitnessOn_5 : decode cX9_fitnessOn 5 = .ok (.aload_n 0, 1) := by decide +kernel
theorem dX9_fitnessOn_6 : decode cX9_fitnessOn 6 = .ok (.iload_n 1, 1) := by decide +kernel
theorem dX9_fitnessOn_7 : decode cX9_fitnessOn 7 = .ok (.invokevirtual 234, 3) := by decide +kernel
theorem dX9_fitnessOn_10 : decode cX9_fitnessOn 10 = .ok (.aload_n 0, 1) := by decide +kernel
theorem dX9_fitnessOn_11 : decode cX9_fitnessOn 11 = .ok (.getfield 41, 3) := by decide +kernel
theorem dX9_fitnessOn_14 : decode cX9_fitnessOn 14 = .ok (.getfield 237, 3) := by decide +kernel
theorem dX9_fitnessOn_17 : decode cX9_fitnessOn 17 = .ok (.iload_n 1, 1) := by decide +kernel
theorem dX9_fitnessOn_18 : decode cX9_fitnessOn 18 = .ok (.iaload, 1) := by decide +kernel
theorem dX9_fitnessOn_19 : decode cX9_fitnessOn 19 = .ok (.ireturn, 1) := by decide +kernel
theorem dX9_fitnessFromStart_0 : decode cX9_fitnessFromStart 0 = .ok (.aload_n 0, 1) := by decide +kernel
theorem dX9_fitnessFromStart_1 : decode cX9_fitnessFromStart 1 = .ok (.iload_n 1, 1) := by decide +kernel
theorem dX9_fitnessFromStart_2 : decode cX9_fitnessFromStart 2 = .ok (.invokevirtual 83, 3) := by decide +kernel
theorem dX9_fitnessFromStart_5 : decode cX9_fitnessFromStart 5 = .ok (.aload_n 0, 1) := by decide +kernel
theorem dX9_fitnessFromStart_6 : decode cX9_fitnessFromStart 6 = .ok (.getfield 12, 3) := by decide +kernel
theorem dX9_fitnessFromStart_9 : decode cX9_fitnessFromStart 9 = .ok (.aload_n 0, 1) := by decide +kernel
theorem dX9_fitnessFromStart_10 : decode cX9_fitnessFromStart 10 = .ok (.getfield 52, 3) := by decide +kernel
theorem dX9_fitnessFromStart_13 : decode cX9_fitnessFromStart 13 = .ok (.invokevirtual 223, 3) := by decide +kernel
theorem dX9_fitnessFromStart_16 : decode cX9_fitnessFromStart 16 = .ok (.iconst 0, 1) := by decide +kernel
theorem dX9_fitnessFromStart_17 : decode cX9_fitnessFromStart 17 = .ok (.istore_n 2, 1) := by decide +kernel
theorem dX9_fitnessFromStart_18 : decode cX9_fitnessFromStart 18 = .ok (.iconst 0, 1) := by decide +kernel
theorem dX9_fitnessFromStart_19 : decode cX9_fitnessFromStart 19 = .ok (.istore_n 3, 1) := by decide +kernel
theorem dX9_fitnessFromStart_20 : decode cX9_fitnessFromStart 20 = .ok (.iload_n 3, 1) := by decide +kernel
theorem dX9_fitnessFromStart_21 : decode cX9_fitnessFromStart 21 = .ok (.iload_n 1, 1) := by decide +kernel
theorem dX9_fitnessFromStart_22 : decode cX9_fitnessFromStart 22 = .ok (.if_icmp .gt 20, 3) := by decide +kernel
theorem dX9_fitnessFromStart_25 : decode cX9_fitnessFromStart 25 = .ok (.iload_n 2, 1) := by decide +kernel
theorem dX9_fitnessFromStart_26 : decode cX9_fitnessFromStart 26 = .ok (.aload_n 0, 1) := by decide +kernel
theorem dX9_fitnessFromStart_27 : decode cX9_fitnessFromStart 27 = .ok (.getfield 52, 3) := by decide +kernel
theorem dX9_fitnessFromStart_30 : decode cX9_fitnessFromStart 30 = .ok (.iload_n 3, 1) := by decide +kernel
theorem dX9_fitnessFromStart_31 : decode cX9_fitnessFromStart 31 = .ok (.iaload, 1) := by decide +kernel
theorem dX9_fitnessFromStart_32 : decode cX9_fitnessFromStart 32 = .ok (.invokestatic 240, 3) := by decide +kernel
theorem dX9_fitnessFromStart_35 : decode cX9_fitnessFromStart 35 = .ok (.istore_n 2, 1) := by decide +kernel
theorem dX9_fitnessFromStart_36 : decode cX9_fitnessFromStart 36 = .ok (.iinc 3 1, 3) := by decide +kernel
theorem dX9_fitnessFromStart_39 : decode cX9_fitnessFromStart 39 = .ok (.goto (-19), 3) := by decide +kernel
theorem dX9_fitnessFromStart_42 : decode cX9_fitnessFromStart 42 = .ok (.iload_n 2, 1) := by decide +kernel
theorem dX9_fitnessFromStart_43 : decode cX9_fitnessFromStart 43 = .ok (.ireturn, 1) := by decide +kernel
theorem dX9_fatigueOn_0 : decode cX9_fatigueOn 0 = .ok (.aload_n 0, 1) := by decide +kernel
theorem dX9_fatigueOn_1 : decode cX9_fatigueOn 1 = .ok (.iload_n 1, 1) := by decide +kernel
theorem dX9_fatigueOn_2 : decode cX9_fatigueOn 2 = .ok (.invokevirtual 83, 3) := by decide +kernel
theorem dX9_fatigueOn_5 : decode cX9_fatigueOn 5 = .ok (.aload_n 0, 1) := by decide +kernel
theorem dX9_fatigueOn_6 : decode cX9_fatigueOn 6 = .ok (.iload_n 1, 1) := by decide +kernel
theorem dX9_fatigueOn_7 : decode cX9_fatigueOn 7 = .ok (.invokevirtual 234, 3) := by decide +kernel
theorem dX9_fatigueOn_10 : decode cX9_fatigueOn 10 = .ok (.aload_n 0, 1) := by decide +kernel
theorem dX9_fatigueOn_11 : decode cX9_fatigueOn 11 = .ok (.getfield 41, 3) := by decide +kernel
theorem dX9_fatigueOn_14 : decode cX9_fatigueOn 14 = .ok (.getfield 243, 3) := by decide +kernel
theorem dX9_fatigueOn_17 : decode cX9_fatigueOn 17 = .ok (.iload_n 1, 1) := by decide +kernel
theorem dX9_fatigueOn_18 : decode cX9_fatigueOn 18 = .ok (.iaload, 1) := by decide +kernel
theorem dX9_fatigueOn_19 : decode cX9_fatigueOn 19 = .ok (.ireturn, 1) := by decide +kernel
theorem dX9_fatigueFromStart_0 : decode cX9_fatigueFromStart 0 = .ok (.aload_n 0, 1) := by decide +kernel
theorem dX9_fatigueFromStart_1 : decode cX9_fatigueFromStart 1 = .ok (.iload_n 1, 1) := by decide +kernel
theorem dX9_fatigueFromStart_2 : decode cX9_fatigueFromStart 2 = .ok (.invokevirtual 83, 3) := by decide +kernel
theorem dX9_fatigueFromStart_5 : decode cX9_fatigueFromStart 5 = .ok (.aload_n 0, 1) := by decide +kernel
theorem dX9_fatigueFromStart_6 : decode cX9_fatigueFromStart 6 = .ok (.getfield 12, 3) := by decide +kernel
theorem dX9_fatigueFromStart_9 : decode cX9_fatigueFromStart 9 = .ok (.aload_n 0, 1) := by decide +kernel
theorem dX9_fatigueFromStart_10 : decode cX9_fatigueFromStart 10 = .ok (.getfield 52, 3) := by decide +kernel
theorem dX9_fatigueFromStart_13 : decode cX9_fatigueFromStart 13 = .ok (.invokevirtual 223, 3) := by decide +kernel
theorem dX9_fatigueFromStart_16 : decode cX9_fatigueFromStart 16 = .ok (.iconst 0, 1) := by decide +kernel
theorem dX9_fatigueFromStart_17 : decode cX9_fatigueFromStart 17 = .ok (.istore_n 2, 1) := by decide +kernel
theorem dX9_fatigueFromStart_18 : decode cX9_fatigueFromStart 18 = .ok (.iconst 0, 1) := by decide +kernel
theorem dX9_fatigueFromStart_19 : decode cX9_fatigueFromStart 19 = .ok (.istore_n 3, 1) := by decide +kernel
theorem dX9_fatigueFromStart_20 : decode cX9_fatigueFromStart 20 = .ok (.iload_n 3, 1) := by decide +kernel
theorem dX9_fatigueFromStart_21 : decode cX9_fatigueFromStart 21 = .ok (.iload_n 1, 1) := by decide +kernel
theorem dX9_fatigueFromStart_22 : decode cX9_fatigueFromStart 22 = .ok (.if_icmp .gt 20, 3) := by decide +kernel
theorem dX9_fatigueFromStart_25 : decode cX9_fatigueFromStart 25 = .ok (.iload_n 2, 1) := by decide +kernel
theorem dX9_fatigueFromStart_26 : decode cX9_fatigueFromStart 26 = .ok (.aload_n 0, 1) := by decide +kernel
theorem dX9_fatigueFromStart_27 : decode cX9_fatigueFromStart 27 = .ok (.getfield 52, 3) := by decide +kernel
theorem dX9_fatigueFromStart_30 : decode cX9_fatigueFromStart 30 = .ok (.iload_n 3, 1) := by decide +kernel
theorem dX9_fatigueFromStart_31 : decode cX9_fatigueFromStart 31 = .ok (.iaload, 1) := by decide +kernel
theorem dX9_fatigueFromStart_32 : decode cX9_fatigueFromStart 32 = .ok (.invokestatic 246, 3) := by decide +kernel
theorem dX9_fatigueFromStart_35 : decode cX9_fatigueFromStart 35 = .ok (.istore_n 2, 1) := by decide +kernel
theorem dX9_fatigueFromStart_36 : decode cX9_fatigueFromStart 36 = .ok (.iinc 3 1, 3) := by decide +kernel
theorem dX9_fatigueFromStart_39 : decode cX9_fatigueFromStart 39 = .ok (.goto (-19), 3) := by decide +kernel
theorem dX9_fatigueFromStart_42 : decode cX9_fatigueFromStart 42 = .ok (.iload_n 2, 1) := by decide +kernel
theorem dX9_fatigueFromStart_43 : decode cX9_fatigueFromStart 43 = .ok (.ireturn, 1) := by decide +kernel
theorem dX9_formOn_0 : decode cX9_formOn 0 = .ok (.aload_n 0, 1) := by decide +kernel
theorem dX9_formOn_1 : decode cX9_formOn 1 = .ok (.iload_n 1, 1) := by decide +kernel
theorem dX9_formOn_2 : decode cX9_formOn 2 = .ok (.invokevirtual 83, 3) := by decide +kernel
theorem dX9_formOn_5 : decode cX9_formOn 5 = .ok (.aload_n 0, 1) := by decide +kernel
theorem dX9_formOn_6 : decode cX9_formOn 6 = .ok (.iload_n 1, 1) := by decide +kernel
theorem dX9_formOn_7 : decode cX9_formOn 7 = .ok (.invokevirtual 234, 3) := by decide +kernel
theorem dX9_formOn_10 : decode cX9_formOn 10 = .ok (.aload_n 0, 1) := by decide +kernel
theorem dX9_formOn_11 : decode cX9_formOn 11 = .ok (.getfield 41, 3) := by decide +kernel
theorem dX9_formOn_14 : decode cX9_formOn 14 = .ok (.iload_n 1, 1) := by decide +kernel
theorem dX9_formOn_15 : decode cX9_formOn 15 = .ok (.invokevirtual 249, 3) := by decide +kernel
theorem dX9_formOn_18 : decode cX9_formOn 18 = .ok (.aload_n 0, 1) := by decide +kernel
theorem dX9_formOn_19 : decode cX9_formOn 19 = .ok (.getfield 41, 3) := by decide +kernel
theorem dX9_formOn_22 : decode cX9_formOn 22 = .ok (.iload_n 1, 1) := by decide +kernel
theorem dX9_formOn_23 : decode cX9_formOn 23 = .ok (.invokevirtual 252, 3) := by decide +kernel
theorem dX9_formOn_26 : decode cX9_formOn 26 = .ok (.isub, 1) := by decide +kernel
theorem dX9_formOn_27 : decode cX9_formOn 27 = .ok (.ireturn, 1) := by decide +kernel
theorem dX9_bestFormDay_0 : decode cX9_bestFormDay 0 = .ok (.aload_n 0, 1) := by decide +kernel
theorem dX9_bestFormDay_1 : decode cX9_bestFormDay 1 = .ok (.aload_n 0, 1) := by decide +kernel
theorem dX9_bestFormDay_2 : decode cX9_bestFormDay 2 = .ok (.getfield 12, 3) := by decide +kernel
theorem dX9_bestFormDay_5 : decode cX9_bestFormDay 5 = .ok (.getfield 69, 3) := by decide +kernel
theorem dX9_bestFormDay_8 : decode cX9_bestFormDay 8 = .ok (.invokevirtual 234, 3) := by decide +kernel
theorem dX9_bestFormDay_11 : decode cX9_bestFormDay 11 = .ok (.iconst 0, 1) := by decide +kernel
theorem dX9_bestFormDay_12 : decode cX9_bestFormDay 12 = .ok (.istore_n 1, 1) := by decide +kernel
theorem dX9_bestFormDay_13 : decode cX9_bestFormDay 13 = .ok (.iconst 0, 1) := by decide +kernel
theorem dX9_bestFormDay_14 : decode cX9_bestFormDay 14 = .ok (.istore_n 2, 1) := by decide +kernel
theorem dX9_bestFormDay_15 : decode cX9_bestFormDay 15 = .ok (.iconst 1, 1) := by decide +kernel
theorem dX9_bestFormDay_16 : decode cX9_bestFormDay 16 = .ok (.istore_n 3, 1) := by decide +kernel
theorem dX9_bestFormDay_17 : decode cX9_bestFormDay 17 = .ok (.iload_n 3, 1) := by decide +kernel
theorem dX9_bestFormDay_18 : decode cX9_bestFormDay 18 = .ok (.aload_n 0, 1) := by decide +kernel
theorem dX9_bestFormDay_19 : decode cX9_bestFormDay 19 = .ok (.getfield 12, 3) := by decide +kernel
theorem dX9_bestFormDay_22 : decode cX9_bestFormDay 22 = .ok (.getfield 69, 3) := by decide +kernel
theorem dX9_bestFormDay_25 : decode cX9_bestFormDay 25 = .ok (.if_icmp .gt 39, 3) := by decide +kernel
theorem dX9_bestFormDay_28 : decode cX9_bestFormDay 28 = .ok (.aload_n 0, 1) := by decide +kernel
theorem dX9_bestFormDay_29 : decode cX9_bestFormDay 29 = .ok (.getfield 41, 3) := by decide +kernel
theorem dX9_bestFormDay_32 : decode cX9_bestFormDay 32 = .ok (.iload_n 3, 1) := by decide +kernel
theorem dX9_bestFormDay_33 : decode cX9_bestFormDay 33 = .ok (.invokevirtual 249, 3) := by decide +kernel
theorem dX9_bestFormDay_36 : decode cX9_bestFormDay 36 = .ok (.aload_n 0, 1) := by decide +kernel
theorem dX9_bestFormDay_37 : decode cX9_bestFormDay 37 = .ok (.getfield 41, 3) := by decide +kernel
theorem dX9_bestFormDay_40 : decode cX9_bestFormDay 40 = .ok (.iload_n 3, 1) := by decide +kernel
theorem dX9_bestFormDay_41 : decode cX9_bestFormDay 41 = .ok (.invokevirtual 252, 3) := by decide +kernel
theorem dX9_bestFormDay_44 : decode cX9_bestFormDay 44 = .ok (.isub, 1) := by decide +kernel
theorem dX9_bestFormDay_45 : decode cX9_bestFormDay 45 = .ok (.istore 4, 2) := by decide +kernel
theorem dX9_bestFormDay_47 : decode cX9_bestFormDay 47 = .ok (.iload 4, 2) := by decide +kernel
theorem dX9_bestFormDay_49 : decode cX9_bestFormDay 49 = .ok (.iload_n 1, 1) := by decide +kernel
theorem dX9_bestFormDay_50 : decode cX9_bestFormDay 50 = .ok (.if_icmp .le 8, 3) := by decide +kernel
theorem dX9_bestFormDay_53 : decode cX9_bestFormDay 53 = .ok (.iload 4, 2) := by decide +kernel
theorem dX9_bestFormDay_55 : decode cX9_bestFormDay 55 = .ok (.istore_n 1, 1) := by decide +kernel
theorem dX9_bestFormDay_56 : decode cX9_bestFormDay 56 = .ok (.iload_n 3, 1) := by decide +kernel
theorem dX9_bestFormDay_57 : decode cX9_bestFormDay 57 = .ok (.istore_n 2, 1) := by decide +kernel
theorem dX9_bestFormDay_58 : decode cX9_bestFormDay 58 = .ok (.iinc 3 1, 3) := by decide +kernel
theorem dX9_bestFormDay_61 : decode cX9_bestFormDay 61 = .ok (.goto (-44), 3) := by decide +kernel
theorem dX9_bestFormDay_64 : decode cX9_bestFormDay 64 = .ok (.iload_n 2, 1) := by decide +kernel
theorem dX9_bestFormDay_65 : decode cX9_bestFormDay 65 = .ok (.ireturn, 1) := by decide +kernel
theorem dX9_daysToForm_0 : decode cX9_daysToForm 0 = .ok (.iload_n 1, 1) := by decide +kernel
theorem dX9_daysToForm_1 : decode cX9_daysToForm 1 = .ok (.ldc 255, 2) := by decide +kernel
theorem dX9_daysToForm_3 : decode cX9_daysToForm 3 = .ok (.ldc_w 256, 3) := by decide +kernel
theorem dX9_daysToForm_6 : decode cX9_daysToForm 6 = .ok (.invokestatic 65, 3) := by decide +kernel
theorem dX9_daysToForm_9 : decode cX9_daysToForm 9 = .ok (.aload_n 0, 1) := by decide +kernel
theorem dX9_daysToForm_10 : decode cX9_daysToForm 10 = .ok (.aload_n 0, 1) := by decide +kernel
theorem dX9_daysToForm_11 : decode cX9_daysToForm 11 = .ok (.getfield 12, 3) := by decide +kernel
theorem dX9_daysToForm_14 : decode cX9_daysToForm 14 = .ok (.getfield 69, 3) := by decide +kernel
theorem dX9_daysToForm_17 : decode cX9_daysToForm 17 = .ok (.invokevirtual 234, 3) := by decide +kernel
theorem dX9_daysToForm_20 : decode cX9_daysToForm 20 = .ok (.aload_n 0, 1) := by decide +kernel
theorem dX9_daysToForm_21 : decode cX9_daysToForm 21 = .ok (.getfield 41, 3) := by decide +kernel
theorem dX9_daysToForm_24 : decode cX9_daysToForm 24 = .ok (.aload_n 0, 1) := by decide +kernel
theorem dX9_daysToForm_25 : decode cX9_daysToForm 25 = .ok (.getfield 12, 3) := by decide +kernel
theorem dX9_daysToForm_28 : decode cX9_daysToForm 28 = .ok (.getfield 69, 3) := by decide +kernel
theorem dX9_daysToForm_31 : decode cX9_daysToForm 31 = .ok (.invokevirtual 249, 3) := by decide +kernel
theorem dX9_daysToForm_34 : decode cX9_daysToForm 34 = .ok (.aload_n 0, 1) := by decide +kernel
theorem dX9_daysToForm_35 : decode cX9_daysToForm 35 = .ok (.getfield 41, 3) := by decide +kernel
theorem dX9_daysToForm_38 : decode cX9_daysToForm 38 = .ok (.aload_n 0, 1) := by decide +kernel
theorem dX9_daysToForm_39 : decode cX9_daysToForm 39 = .ok (.getfield 12, 3) := by decide +kernel
theorem dX9_daysToForm_42 : decode cX9_daysToForm 42 = .ok (.getfield 69, 3) := by decide +kernel
theorem dX9_daysToForm_45 : decode cX9_daysToForm 45 = .ok (.invokevirtual 252, 3) := by decide +kernel
theorem dX9_daysToForm_48 : decode cX9_daysToForm 48 = .ok (.isub, 1) := by decide +kernel
theorem dX9_daysToForm_49 : decode cX9_daysToForm 49 = .ok (.iload_n 1, 1) := by decide +kernel
theorem dX9_daysToForm_50 : decode cX9_daysToForm 50 = .ok (.if_icmp .lt 5, 3) := by decide +kernel
theorem dX9_daysToForm_53 : decode cX9_daysToForm 53 = .ok (.iconst 0, 1) := by decide +kernel
theorem dX9_daysToForm_54 : decode cX9_daysToForm 54 = .ok (.ireturn, 1) := by decide +kernel
theorem dX9_daysToForm_55 : decode cX9_daysToForm 55 = .ok (.aload_n 0, 1) := by decide +kernel
theorem dX9_daysToForm_56 : decode cX9_daysToForm 56 = .ok (.getfield 41, 3) := by decide +kernel
theorem dX9_daysToForm_59 : decode cX9_daysToForm 59 = .ok (.getfield 237, 3) := by decide +kernel
theorem dX9_daysToForm_62 : decode cX9_daysToForm 62 = .ok (.aload_n 0, 1) := by decide +kernel
theorem dX9_daysToForm_63 : decode cX9_daysToForm 63 = .ok (.getfield 12, 3) := by decide +kernel
theorem dX9_daysToForm_66 : decode cX9_daysToForm 66 = .ok (.getfield 69, 3) := by decide +kernel
theorem dX9_daysToForm_69 : decode cX9_daysToForm 69 = .ok (.iaload, 1) := by decide +kernel
theorem dX9_daysToForm_70 : decode cX9_daysToForm 70 = .ok (.istore_n 2, 1) := by decide +kernel
theorem dX9_daysToForm_71 : decode cX9_daysToForm 71 = .ok (.aload_n 0, 1) := by decide +kernel
theorem dX9_daysToForm_72 : decode cX9_daysToForm 72 = .ok (.getfield 41, 3) := by decide +kernel
theorem dX9_daysToForm_75 : decode cX9_daysToForm 75 = .ok (.getfield 243, 3) := by decide +kernel
theorem dX9_daysToForm_78 : decode cX9_daysToForm 78 = .ok (.aload_n 0, 1) := by decide +kernel
theorem dX9_daysToForm_79 : decode cX9_daysToForm 79 = .ok (.getfield 12, 3) := by decide +kernel
theorem dX9_daysToForm_82 : decode cX9_daysToForm 82 = .ok (.getfield 69, 3) := by decide +kernel
theorem dX9_daysToForm_85 : decode cX9_daysToForm 85 = .ok (.iaload, 1) := by decide +kernel
theorem dX9_daysToForm_86 : decode cX9_daysToForm 86 = .ok (.istore_n 3, 1) := by decide +kernel
theorem dX9_daysToForm_87 : decode cX9_daysToForm 87 = .ok (.iconst 1, 1) := by decide +kernel
theorem dX9_daysToForm_88 : decode cX9_daysToForm 88 = .ok (.istore 4, 2) := by decide +kernel
theorem dX9_daysToForm_90 : decode cX9_daysToForm 90 = .ok (.iload 4, 2) := by decide +kernel
theorem dX9_daysToForm_92 : decode cX9_daysToForm 92 = .ok (.sipush 200, 3) := by decide +kernel
theorem dX9_daysToForm_95 : decode cX9_daysToForm 95 = .ok (.if_icmp .gt 31, 3) := by decide +kernel
theorem dX9_daysToForm_98 : decode cX9_daysToForm 98 = .ok (.iload_n 2, 1) := by decide +kernel
theorem dX9_daysToForm_99 : decode cX9_daysToForm 99 = .ok (.iload_n 3, 1) := by decide +kernel
theorem dX9_daysToForm_100 : decode cX9_daysToForm 100 = .ok (.isub, 1) := by decide +kernel
theorem dX9_daysToForm_101 : decode cX9_daysToForm 101 = .ok (.iload_n 1, 1) := by decide +kernel
theorem dX9_daysToForm_102 : decode cX9_daysToForm 102 = .ok (.if_icmp .lt 6, 3) := by decide +kernel
theorem dX9_daysToForm_105 : decode cX9_daysToForm 105 = .ok (.iload 4, 2) := by decide +kernel
theorem dX9_daysToForm_107 : decode cX9_daysToForm 107 = .ok (.ireturn, 1) := by decide +kernel
theorem dX9_daysToForm_108 : decode cX9_daysToForm 108 = .ok (.iload_n 2, 1) := by decide +kernel
theorem dX9_daysToForm_109 : decode cX9_daysToForm 109 = .ok (.iconst 0, 1) := by decide +kernel
theorem dX9_daysToForm_110 : decode cX9_daysToForm 110 = .ok (.invokestatic 240, 3) := by decide +kernel
theorem dX9_daysToForm_113 : decode cX9_daysToForm 113 = .ok (.istore_n 2, 1) := by decide +kernel
theorem dX9_daysToForm_114 : decode cX9_daysToForm 114 = .ok (.iload_n 3, 1) := by decide +kernel
theorem dX9_daysToForm_115 : decode cX9_daysToForm 115 = .ok (.iconst 0, 1) := by decide +kernel
theorem dX9_daysToForm_116 : decode cX9_daysToForm 116 = .ok (.invokestatic 246, 3) := by decide +kernel
theorem dX9_daysToForm_119 : decode cX9_daysToForm 119 = .ok (.istore_n 3, 1) := by decide +kernel
theorem dX9_daysToForm_120 : decode cX9_daysToForm 120 = .ok (.iinc 4 1, 3) := by decide +kernel
theorem dX9_daysToForm_123 : decode cX9_daysToForm 123 = .ok (.goto (-33), 3) := by decide +kernel
theorem dX9_daysToForm_126 : decode cX9_daysToForm 126 = .ok (.new 117, 3) := by decide +kernel
theorem dX9_daysToForm_129 : decode cX9_daysToForm 129 = .ok (.dup, 1) := by decide +kernel
theorem dX9_daysToForm_130 : decode cX9_daysToForm 130 = .ok (.ldc_w 257, 3) := by decide +kernel
theorem dX9_daysToForm_133 : decode cX9_daysToForm 133 = .ok (.invokespecial 121, 3) := by decide +kernel
theorem dX9_daysToForm_136 : decode cX9_daysToForm 136 = .ok (.athrow, 1) := by decide +kernel
theorem dX9_bestDays_0 : decode cX9_bestDays 0 = .ok (.aload_n 0, 1) := by decide +kernel
theorem dX9_bestDays_1 : decode cX9_bestDays 1 = .ok (.iload_n 1, 1) := by decide +kernel
theorem dX9_bestDays_2 : decode cX9_bestDays 2 = .ok (.invokevirtual 259, 3) := by decide +kernel
theorem dX9_bestDays_5 : decode cX9_bestDays 5 = .ok (.aload_n 0, 1) := by decide +kernel
theorem dX9_bestDays_6 : decode cX9_bestDays 6 = .ok (.iload_n 1, 1) := by decide +kernel
theorem dX9_bestDays_7 : decode cX9_bestDays 7 = .ok (.invokevirtual 262, 3) := by decide +kernel
theorem dX9_bestDays_10 : decode cX9_bestDays 10 = .ok (.istore_n 2, 1) := by decide +kernel
theorem dX9_bestDays_11 : decode cX9_bestDays 11 = .ok (.aload_n 0, 1) := by decide +kernel
end
section
theorem dX9_bestDays_12 : decode cX9_bestDays 12 = .ok (.iload_n 2, 1) := by decide +kernel
theorem dX9_bestDays_13 : decode cX9_bestDays 13 = .ok (.iload_n 1, 1) := by decide +kernel
theorem dX9_bestDays_14 : decode cX9_bestDays 14 = .ok (.invokevirtual 231, 3) := by decide +kernel
theorem dX9_bestDays_17 : decode cX9_bestDays 17 = .ok (.ireturn, 1) := by decide +kernel
theorem dX9_bestDaysByTrying_0 : decode cX9_bestDaysByTrying 0 = .ok (.aload_n 0, 1) := by decide +kernel
theorem dX9_bestDaysByTrying_1 : decode cX9_bestDaysByTrying 1 = .ok (.iload_n 1, 1) := by decide +kernel
theorem dX9_bestDaysByTrying_2 : decode cX9_bestDaysByTrying 2 = .ok (.invokevirtual 259, 3) := by decide +kernel
theorem dX9_bestDaysByTrying_5 : decode cX9_bestDaysByTrying 5 = .ok (.aload_n 0, 1) := by decide +kernel
theorem dX9_bestDaysByTrying_6 : decode cX9_bestDaysByTrying 6 = .ok (.getfield 12, 3) := by decide +kernel
theorem dX9_bestDaysByTrying_9 : decode cX9_bestDaysByTrying 9 = .ok (.aload_n 0, 1) := by decide +kernel
theorem dX9_bestDaysByTrying_10 : decode cX9_bestDaysByTrying 10 = .ok (.getfield 52, 3) := by decide +kernel
theorem dX9_bestDaysByTrying_13 : decode cX9_bestDaysByTrying 13 = .ok (.invokevirtual 223, 3) := by decide +kernel
theorem dX9_bestDaysByTrying_16 : decode cX9_bestDaysByTrying 16 = .ok (.iconst 0, 1) := by decide +kernel
theorem dX9_bestDaysByTrying_17 : decode cX9_bestDaysByTrying 17 = .ok (.istore_n 2, 1) := by decide +kernel
theorem dX9_bestDaysByTrying_18 : decode cX9_bestDaysByTrying 18 = .ok (.iconst 0, 1) := by decide +kernel
theorem dX9_bestDaysByTrying_19 : decode cX9_bestDaysByTrying 19 = .ok (.istore_n 3, 1) := by decide +kernel
theorem dX9_bestDaysByTrying_20 : decode cX9_bestDaysByTrying 20 = .ok (.iload_n 3, 1) := by decide +kernel
theorem dX9_bestDaysByTrying_21 : decode cX9_bestDaysByTrying 21 = .ok (.iload_n 1, 1) := by decide +kernel
theorem dX9_bestDaysByTrying_22 : decode cX9_bestDaysByTrying 22 = .ok (.iadd, 1) := by decide +kernel
theorem dX9_bestDaysByTrying_23 : decode cX9_bestDaysByTrying 23 = .ok (.aload_n 0, 1) := by decide +kernel
theorem dX9_bestDaysByTrying_24 : decode cX9_bestDaysByTrying 24 = .ok (.getfield 12, 3) := by decide +kernel
theorem dX9_bestDaysByTrying_27 : decode cX9_bestDaysByTrying 27 = .ok (.getfield 69, 3) := by decide +kernel
theorem dX9_bestDaysByTrying_30 : decode cX9_bestDaysByTrying 30 = .ok (.iconst 1, 1) := by decide +kernel
theorem dX9_bestDaysByTrying_31 : decode cX9_bestDaysByTrying 31 = .ok (.iadd, 1) := by decide +kernel
theorem dX9_bestDaysByTrying_32 : decode cX9_bestDaysByTrying 32 = .ok (.if_icmp .gt 20, 3) := by decide +kernel
theorem dX9_bestDaysByTrying_35 : decode cX9_bestDaysByTrying 35 = .ok (.iload_n 2, 1) := by decide +kernel
theorem dX9_bestDaysByTrying_36 : decode cX9_bestDaysByTrying 36 = .ok (.aload_n 0, 1) := by decide +kernel
theorem dX9_bestDaysByTrying_37 : decode cX9_bestDaysByTrying 37 = .ok (.iload_n 3, 1) := by decide +kernel
theorem dX9_bestDaysByTrying_38 : decode cX9_bestDaysByTrying 38 = .ok (.iload_n 1, 1) := by decide +kernel
theorem dX9_bestDaysByTrying_39 : decode cX9_bestDaysByTrying 39 = .ok (.invokevirtual 231, 3) := by decide +kernel
theorem dX9_bestDaysByTrying_42 : decode cX9_bestDaysByTrying 42 = .ok (.invokestatic 265, 3) := by decide +kernel
theorem dX9_bestDaysByTrying_45 : decode cX9_bestDaysByTrying 45 = .ok (.istore_n 2, 1) := by decide +kernel
theorem dX9_bestDaysByTrying_46 : decode cX9_bestDaysByTrying 46 = .ok (.iinc 3 1, 3) := by decide +kernel
theorem dX9_bestDaysByTrying_49 : decode cX9_bestDaysByTrying 49 = .ok (.goto (-29), 3) := by decide +kernel
theorem dX9_bestDaysByTrying_52 : decode cX9_bestDaysByTrying 52 = .ok (.iload_n 2, 1) := by decide +kernel
theorem dX9_bestDaysByTrying_53 : decode cX9_bestDaysByTrying 53 = .ok (.ireturn, 1) := by decide +kernel
theorem dX9_bestDaysStart_0 : decode cX9_bestDaysStart 0 = .ok (.aload_n 0, 1) := by decide +kernel
theorem dX9_bestDaysStart_1 : decode cX9_bestDaysStart 1 = .ok (.iload_n 1, 1) := by decide +kernel
theorem dX9_bestDaysStart_2 : decode cX9_bestDaysStart 2 = .ok (.invokevirtual 259, 3) := by decide +kernel
theorem dX9_bestDaysStart_5 : decode cX9_bestDaysStart 5 = .ok (.aload_n 0, 1) := by decide +kernel
theorem dX9_bestDaysStart_6 : decode cX9_bestDaysStart 6 = .ok (.iload_n 1, 1) := by decide +kernel
theorem dX9_bestDaysStart_7 : decode cX9_bestDaysStart 7 = .ok (.invokevirtual 262, 3) := by decide +kernel
theorem dX9_bestDaysStart_10 : decode cX9_bestDaysStart 10 = .ok (.ireturn, 1) := by decide +kernel
theorem dX9_bestEffort_0 : decode cX9_bestEffort 0 = .ok (.aload_n 0, 1) := by decide +kernel
theorem dX9_bestEffort_1 : decode cX9_bestEffort 1 = .ok (.iload_n 1, 1) := by decide +kernel
theorem dX9_bestEffort_2 : decode cX9_bestEffort 2 = .ok (.invokevirtual 268, 3) := by decide +kernel
theorem dX9_bestEffort_5 : decode cX9_bestEffort 5 = .ok (.istore_n 2, 1) := by decide +kernel
theorem dX9_bestEffort_6 : decode cX9_bestEffort 6 = .ok (.aload_n 0, 1) := by decide +kernel
theorem dX9_bestEffort_7 : decode cX9_bestEffort 7 = .ok (.aload_n 0, 1) := by decide +kernel
theorem dX9_bestEffort_8 : decode cX9_bestEffort 8 = .ok (.getfield 12, 3) := by decide +kernel
theorem dX9_bestEffort_11 : decode cX9_bestEffort 11 = .ok (.getfield 156, 3) := by decide +kernel
theorem dX9_bestEffort_14 : decode cX9_bestEffort 14 = .ok (.getfield 205, 3) := by decide +kernel
theorem dX9_bestEffort_17 : decode cX9_bestEffort 17 = .ok (.iload_n 2, 1) := by decide +kernel
theorem dX9_bestEffort_18 : decode cX9_bestEffort 18 = .ok (.aaload, 1) := by decide +kernel
theorem dX9_bestEffort_19 : decode cX9_bestEffort 19 = .ok (.iload_n 1, 1) := by decide +kernel
theorem dX9_bestEffort_20 : decode cX9_bestEffort 20 = .ok (.invokevirtual 271, 3) := by decide +kernel
theorem dX9_bestEffort_23 : decode cX9_bestEffort 23 = .ok (.ireturn, 1) := by decide +kernel
theorem dX9_bestEffortByTrying_0 : decode cX9_bestEffortByTrying 0 = .ok (.aload_n 0, 1) := by decide +kernel
theorem dX9_bestEffortByTrying_1 : decode cX9_bestEffortByTrying 1 = .ok (.iload_n 1, 1) := by decide +kernel
theorem dX9_bestEffortByTrying_2 : decode cX9_bestEffortByTrying 2 = .ok (.invokevirtual 275, 3) := by decide +kernel
theorem dX9_bestEffortByTrying_5 : decode cX9_bestEffortByTrying 5 = .ok (.iconst 0, 1) := by decide +kernel
theorem dX9_bestEffortByTrying_6 : decode cX9_bestEffortByTrying 6 = .ok (.istore_n 2, 1) := by decide +kernel
theorem dX9_bestEffortByTrying_7 : decode cX9_bestEffortByTrying 7 = .ok (.iconst 0, 1) := by decide +kernel
theorem dX9_bestEffortByTrying_8 : decode cX9_bestEffortByTrying 8 = .ok (.istore_n 3, 1) := by decide +kernel
theorem dX9_bestEffortByTrying_9 : decode cX9_bestEffortByTrying 9 = .ok (.iload_n 3, 1) := by decide +kernel
theorem dX9_bestEffortByTrying_10 : decode cX9_bestEffortByTrying 10 = .ok (.aload_n 0, 1) := by decide +kernel
theorem dX9_bestEffortByTrying_11 : decode cX9_bestEffortByTrying 11 = .ok (.getfield 12, 3) := by decide +kernel
theorem dX9_bestEffortByTrying_14 : decode cX9_bestEffortByTrying 14 = .ok (.getfield 156, 3) := by decide +kernel
theorem dX9_bestEffortByTrying_17 : decode cX9_bestEffortByTrying 17 = .ok (.getfield 160, 3) := by decide +kernel
theorem dX9_bestEffortByTrying_20 : decode cX9_bestEffortByTrying 20 = .ok (.if_icmp .ge 31, 3) := by decide +kernel
theorem dX9_bestEffortByTrying_23 : decode cX9_bestEffortByTrying 23 = .ok (.iload_n 2, 1) := by decide +kernel
theorem dX9_bestEffortByTrying_24 : decode cX9_bestEffortByTrying 24 = .ok (.aload_n 0, 1) := by decide +kernel
theorem dX9_bestEffortByTrying_25 : decode cX9_bestEffortByTrying 25 = .ok (.aload_n 0, 1) := by decide +kernel
theorem dX9_bestEffortByTrying_26 : decode cX9_bestEffortByTrying 26 = .ok (.getfield 12, 3) := by decide +kernel
theorem dX9_bestEffortByTrying_29 : decode cX9_bestEffortByTrying 29 = .ok (.getfield 156, 3) := by decide +kernel
theorem dX9_bestEffortByTrying_32 : decode cX9_bestEffortByTrying 32 = .ok (.getfield 205, 3) := by decide +kernel
theorem dX9_bestEffortByTrying_35 : decode cX9_bestEffortByTrying 35 = .ok (.iload_n 3, 1) := by decide +kernel
theorem dX9_bestEffortByTrying_36 : decode cX9_bestEffortByTrying 36 = .ok (.aaload, 1) := by decide +kernel
theorem dX9_bestEffortByTrying_37 : decode cX9_bestEffortByTrying 37 = .ok (.iload_n 1, 1) := by decide +kernel
theorem dX9_bestEffortByTrying_38 : decode cX9_bestEffortByTrying 38 = .ok (.invokevirtual 278, 3) := by decide +kernel
theorem dX9_bestEffortByTrying_41 : decode cX9_bestEffortByTrying 41 = .ok (.invokestatic 265, 3) := by decide +kernel
theorem dX9_bestEffortByTrying_44 : decode cX9_bestEffortByTrying 44 = .ok (.istore_n 2, 1) := by decide +kernel
theorem dX9_bestEffortByTrying_45 : decode cX9_bestEffortByTrying 45 = .ok (.iinc 3 1, 3) := by decide +kernel
theorem dX9_bestEffortByTrying_48 : decode cX9_bestEffortByTrying 48 = .ok (.goto (-39), 3) := by decide +kernel
theorem dX9_bestEffortByTrying_51 : decode cX9_bestEffortByTrying 51 = .ok (.iload_n 2, 1) := by decide +kernel
theorem dX9_bestEffortByTrying_52 : decode cX9_bestEffortByTrying 52 = .ok (.ireturn, 1) := by decide +kernel
theorem dX9_bestEffortSession_0 : decode cX9_bestEffortSession 0 = .ok (.aload_n 0, 1) := by decide +kernel
theorem dX9_bestEffortSession_1 : decode cX9_bestEffortSession 1 = .ok (.iload_n 1, 1) := by decide +kernel
theorem dX9_bestEffortSession_2 : decode cX9_bestEffortSession 2 = .ok (.invokevirtual 268, 3) := by decide +kernel
theorem dX9_bestEffortSession_5 : decode cX9_bestEffortSession 5 = .ok (.istore_n 2, 1) := by decide +kernel
theorem dX9_bestEffortSession_6 : decode cX9_bestEffortSession 6 = .ok (.aload_n 0, 1) := by decide +kernel
theorem dX9_bestEffortSession_7 : decode cX9_bestEffortSession 7 = .ok (.getfield 12, 3) := by decide +kernel
theorem dX9_bestEffortSession_10 : decode cX9_bestEffortSession 10 = .ok (.getfield 156, 3) := by decide +kernel
theorem dX9_bestEffortSession_13 : decode cX9_bestEffortSession 13 = .ok (.getfield 205, 3) := by decide +kernel
theorem dX9_bestEffortSession_16 : decode cX9_bestEffortSession 16 = .ok (.iload_n 2, 1) := by decide +kernel
theorem dX9_bestEffortSession_17 : decode cX9_bestEffortSession 17 = .ok (.aaload, 1) := by decide +kernel
theorem dX9_bestEffortSession_18 : decode cX9_bestEffortSession 18 = .ok (.getfield 209, 3) := by decide +kernel
theorem dX9_bestEffortSession_21 : decode cX9_bestEffortSession 21 = .ok (.ireturn, 1) := by decide +kernel
theorem dX9_startPlan_0 : decode cX9_startPlan 0 = .ok (.aload_n 0, 1) := by decide +kernel
theorem dX9_startPlan_1 : decode cX9_startPlan 1 = .ok (.getfield 19, 3) := by decide +kernel
theorem dX9_startPlan_4 : decode cX9_startPlan 4 = .ok (.aload_n 0, 1) := by decide +kernel
theorem dX9_startPlan_5 : decode cX9_startPlan 5 = .ok (.getfield 12, 3) := by decide +kernel
theorem dX9_startPlan_8 : decode cX9_startPlan 8 = .ok (.invokevirtual 79, 3) := by decide +kernel
theorem dX9_startPlan_11 : decode cX9_startPlan 11 = .ok (.aload_n 0, 1) := by decide +kernel
theorem dX9_startPlan_12 : decode cX9_startPlan 12 = .ok (.getfield 12, 3) := by decide +kernel
theorem dX9_startPlan_15 : decode cX9_startPlan 15 = .ok (.getfield 281, 3) := by decide +kernel
theorem dX9_startPlan_18 : decode cX9_startPlan 18 = .ok (.getfield 285, 3) := by decide +kernel
theorem dX9_startPlan_21 : decode cX9_startPlan 21 = .ok (.istore_n 1, 1) := by decide +kernel
theorem dX9_startPlan_22 : decode cX9_startPlan 22 = .ok (.aload_n 0, 1) := by decide +kernel
theorem dX9_startPlan_23 : decode cX9_startPlan 23 = .ok (.getfield 12, 3) := by decide +kernel
theorem dX9_startPlan_26 : decode cX9_startPlan 26 = .ok (.getfield 281, 3) := by decide +kernel
theorem dX9_startPlan_29 : decode cX9_startPlan 29 = .ok (.aload_n 0, 1) := by decide +kernel
theorem dX9_startPlan_30 : decode cX9_startPlan 30 = .ok (.getfield 12, 3) := by decide +kernel
theorem dX9_startPlan_33 : decode cX9_startPlan 33 = .ok (.getfield 69, 3) := by decide +kernel
theorem dX9_startPlan_36 : decode cX9_startPlan 36 = .ok (.invokevirtual 290, 3) := by decide +kernel
theorem dX9_startPlan_39 : decode cX9_startPlan 39 = .ok (.iload_n 1, 1) := by decide +kernel
theorem dX9_startPlan_40 : decode cX9_startPlan 40 = .ok (.ireturn, 1) := by decide +kernel
theorem dX9_addTarget_0 : decode cX9_addTarget 0 = .ok (.iload_n 1, 1) := by decide +kernel
theorem dX9_addTarget_1 : decode cX9_addTarget 1 = .ok (.iconst 0, 1) := by decide +kernel
theorem dX9_addTarget_2 : decode cX9_addTarget 2 = .ok (.sipush 20000, 3) := by decide +kernel
theorem dX9_addTarget_5 : decode cX9_addTarget 5 = .ok (.invokestatic 65, 3) := by decide +kernel
theorem dX9_addTarget_8 : decode cX9_addTarget 8 = .ok (.aload_n 0, 1) := by decide +kernel
theorem dX9_addTarget_9 : decode cX9_addTarget 9 = .ok (.getfield 12, 3) := by decide +kernel
theorem dX9_addTarget_12 : decode cX9_addTarget 12 = .ok (.getfield 281, 3) := by decide +kernel
theorem dX9_addTarget_15 : decode cX9_addTarget 15 = .ok (.astore_n 2, 1) := by decide +kernel
theorem dX9_addTarget_16 : decode cX9_addTarget 16 = .ok (.aload_n 2, 1) := by decide +kernel
theorem dX9_addTarget_17 : decode cX9_addTarget 17 = .ok (.getfield 293, 3) := by decide +kernel
theorem dX9_addTarget_20 : decode cX9_addTarget 20 = .ok (.ifCond .eq 26, 3) := by decide +kernel
theorem dX9_addTarget_23 : decode cX9_addTarget 23 = .ok (.aload_n 2, 1) := by decide +kernel
theorem dX9_addTarget_24 : decode cX9_addTarget 24 = .ok (.getfield 296, 3) := by decide +kernel
theorem dX9_addTarget_27 : decode cX9_addTarget 27 = .ok (.aload_n 0, 1) := by decide +kernel
theorem dX9_addTarget_28 : decode cX9_addTarget 28 = .ok (.getfield 12, 3) := by decide +kernel
theorem dX9_addTarget_31 : decode cX9_addTarget 31 = .ok (.getfield 69, 3) := by decide +kernel
theorem dX9_addTarget_34 : decode cX9_addTarget 34 = .ok (.if_icmp .ne 12, 3) := by decide +kernel
theorem dX9_addTarget_37 : decode cX9_addTarget 37 = .ok (.aload_n 2, 1) := by decide +kernel
theorem dX9_addTarget_38 : decode cX9_addTarget 38 = .ok (.getfield 285, 3) := by decide +kernel
theorem dX9_addTarget_41 : decode cX9_addTarget 41 = .ok (.bipush 28, 2) := by decide +kernel
theorem dX9_addTarget_43 : decode cX9_addTarget 43 = .ok (.if_icmp .lt 14, 3) := by decide +kernel
theorem dX9_addTarget_46 : decode cX9_addTarget 46 = .ok (.new 72, 3) := by decide +kernel
theorem dX9_addTarget_49 : decode cX9_addTarget 49 = .ok (.dup, 1) := by decide +kernel
theorem dX9_addTarget_50 : decode cX9_addTarget 50 = .ok (.ldc_w 299, 3) := by decide +kernel
theorem dX9_addTarget_53 : decode cX9_addTarget 53 = .ok (.invokespecial 76, 3) := by decide +kernel
theorem dX9_addTarget_56 : decode cX9_addTarget 56 = .ok (.athrow, 1) := by decide +kernel
theorem dX9_addTarget_57 : decode cX9_addTarget 57 = .ok (.aload_n 0, 1) := by decide +kernel
theorem dX9_addTarget_58 : decode cX9_addTarget 58 = .ok (.getfield 19, 3) := by decide +kernel
theorem dX9_addTarget_61 : decode cX9_addTarget 61 = .ok (.aload_n 0, 1) := by decide +kernel
theorem dX9_addTarget_62 : decode cX9_addTarget 62 = .ok (.getfield 12, 3) := by decide +kernel
theorem dX9_addTarget_65 : decode cX9_addTarget 65 = .ok (.invokevirtual 79, 3) := by decide +kernel
theorem dX9_addTarget_68 : decode cX9_addTarget 68 = .ok (.aload_n 2, 1) := by decide +kernel
theorem dX9_addTarget_69 : decode cX9_addTarget 69 = .ok (.iload_n 1, 1) := by decide +kernel
theorem dX9_addTarget_70 : decode cX9_addTarget 70 = .ok (.invokevirtual 301, 3) := by decide +kernel
theorem dX9_addTarget_73 : decode cX9_addTarget 73 = .ok (.aload_n 2, 1) := by decide +kernel
theorem dX9_addTarget_74 : decode cX9_addTarget 74 = .ok (.getfield 285, 3) := by decide +kernel
theorem dX9_addTarget_77 : decode cX9_addTarget 77 = .ok (.ireturn, 1) := by decide +kernel
theorem dX9_targetAt_0 : decode cX9_targetAt 0 = .ok (.iload_n 1, 1) := by decide +kernel
theorem dX9_targetAt_1 : decode cX9_targetAt 1 = .ok (.ifCond .lt 17, 3) := by decide +kernel
theorem dX9_targetAt_4 : decode cX9_targetAt 4 = .ok (.iload_n 1, 1) := by decide +kernel
theorem dX9_targetAt_5 : decode cX9_targetAt 5 = .ok (.aload_n 0, 1) := by decide +kernel
theorem dX9_targetAt_6 : decode cX9_targetAt 6 = .ok (.getfield 12, 3) := by decide +kernel
theorem dX9_targetAt_9 : decode cX9_targetAt 9 = .ok (.getfield 281, 3) := by decide +kernel
theorem dX9_targetAt_12 : decode cX9_targetAt 12 = .ok (.getfield 285, 3) := by decide +kernel
theorem dX9_targetAt_15 : decode cX9_targetAt 15 = .ok (.if_icmp .lt 14, 3) := by decide +kernel
theorem dX9_targetAt_18 : decode cX9_targetAt 18 = .ok (.new 200, 3) := by decide +kernel
theorem dX9_targetAt_21 : decode cX9_targetAt 21 = .ok (.dup, 1) := by decide +kernel
theorem dX9_targetAt_22 : decode cX9_targetAt 22 = .ok (.ldc_w 303, 3) := by decide +kernel
theorem dX9_targetAt_25 : decode cX9_targetAt 25 = .ok (.invokespecial 204, 3) := by decide +kernel
theorem dX9_targetAt_28 : decode cX9_targetAt 28 = .ok (.athrow, 1) := by decide +kernel
theorem dX9_targetAt_29 : decode cX9_targetAt 29 = .ok (.aload_n 0, 1) := by decide +kernel
theorem dX9_targetAt_30 : decode cX9_targetAt 30 = .ok (.getfield 12, 3) := by decide +kernel
theorem dX9_targetAt_33 : decode cX9_targetAt 33 = .ok (.getfield 281, 3) := by decide +kernel
theorem dX9_targetAt_36 : decode cX9_targetAt 36 = .ok (.getfield 305, 3) := by decide +kernel
theorem dX9_targetAt_39 : decode cX9_targetAt 39 = .ok (.iload_n 1, 1) := by decide +kernel
theorem dX9_targetAt_40 : decode cX9_targetAt 40 = .ok (.iaload, 1) := by decide +kernel
theorem dX9_targetAt_41 : decode cX9_targetAt 41 = .ok (.ireturn, 1) := by decide +kernel
theorem dX9_dueEntry_0 : decode cX9_dueEntry 0 = .ok (.aload_n 0, 1) := by decide +kernel
theorem dX9_dueEntry_1 : decode cX9_dueEntry 1 = .ok (.invokevirtual 308, 3) := by decide +kernel
theorem dX9_dueEntry_4 : decode cX9_dueEntry 4 = .ok (.ireturn, 1) := by decide +kernel
theorem dX9_missedDays_0 : decode cX9_missedDays 0 = .ok (.aload_n 0, 1) := by decide +kernel
theorem dX9_missedDays_1 : decode cX9_missedDays 1 = .ok (.invokevirtual 311, 3) := by decide +kernel
theorem dX9_missedDays_4 : decode cX9_missedDays 4 = .ok (.aload_n 0, 1) := by decide +kernel
theorem dX9_missedDays_5 : decode cX9_missedDays 5 = .ok (.getfield 48, 3) := by decide +kernel
theorem dX9_missedDays_8 : decode cX9_missedDays 8 = .ok (.getfield 314, 3) := by decide +kernel
theorem dX9_missedDays_11 : decode cX9_missedDays 11 = .ok (.ireturn, 1) := by decide +kernel
theorem dX9_droppedEntries_0 : decode cX9_droppedEntries 0 = .ok (.aload_n 0, 1) := by decide +kernel
theorem dX9_droppedEntries_1 : decode cX9_droppedEntries 1 = .ok (.invokevirtual 311, 3) := by decide +kernel
theorem dX9_droppedEntries_4 : decode cX9_droppedEntries 4 = .ok (.aload_n 0, 1) := by decide +kernel
theorem dX9_droppedEntries_5 : decode cX9_droppedEntries 5 = .ok (.getfield 48, 3) := by decide +kernel
theorem dX9_droppedEntries_8 : decode cX9_droppedEntries 8 = .ok (.getfield 317, 3) := by decide +kernel
theorem dX9_droppedEntries_11 : decode cX9_droppedEntries 11 = .ok (.ireturn, 1) := by decide +kernel
theorem dX9_planEnd_0 : decode cX9_planEnd 0 = .ok (.aload_n 0, 1) := by decide +kernel
theorem dX9_planEnd_1 : decode cX9_planEnd 1 = .ok (.getfield 12, 3) := by decide +kernel
theorem dX9_planEnd_4 : decode cX9_planEnd 4 = .ok (.getfield 281, 3) := by decide +kernel
theorem dX9_planEnd_7 : decode cX9_planEnd 7 = .ok (.getfield 285, 3) := by decide +kernel
theorem dX9_planEnd_10 : decode cX9_planEnd 10 = .ok (.iconst 1, 1) := by decide +kernel
theorem dX9_planEnd_11 : decode cX9_planEnd 11 = .ok (.isub, 1) := by decide +kernel
theorem dX9_planEnd_12 : decode cX9_planEnd 12 = .ok (.aload_n 0, 1) := by decide +kernel
theorem dX9_planEnd_13 : decode cX9_planEnd 13 = .ok (.invokevirtual 308, 3) := by decide +kernel
theorem dX9_planEnd_16 : decode cX9_planEnd 16 = .ok (.isub, 1) := by decide +kernel
theorem dX9_planEnd_17 : decode cX9_planEnd 17 = .ok (.istore_n 1, 1) := by decide +kernel
theorem dX9_planEnd_18 : decode cX9_planEnd 18 = .ok (.aload_n 0, 1) := by decide +kernel
theorem dX9_planEnd_19 : decode cX9_planEnd 19 = .ok (.getfield 12, 3) := by decide +kernel
theorem dX9_planEnd_22 : decode cX9_planEnd 22 = .ok (.getfield 69, 3) := by decide +kernel
theorem dX9_planEnd_25 : decode cX9_planEnd 25 = .ok (.iload_n 1, 1) := by decide +kernel
theorem dX9_planEnd_26 : decode cX9_planEnd 26 = .ok (.iadd, 1) := by decide +kernel
theorem dX9_planEnd_27 : decode cX9_planEnd 27 = .ok (.ireturn, 1) := by decide +kernel
theorem dX9_isPlanOver_0 : decode cX9_isPlanOver 0 = .ok (.aload_n 0, 1) := by decide +kernel
theorem dX9_isPlanOver_1 : decode cX9_isPlanOver 1 = .ok (.invokevirtual 311, 3) := by decide +kernel
theorem dX9_isPlanOver_4 : decode cX9_isPlanOver 4 = .ok (.aload_n 0, 1) := by decide +kernel
theorem dX9_isPlanOver_5 : decode cX9_isPlanOver 5 = .ok (.getfield 12, 3) := by decide +kernel
theorem dX9_isPlanOver_8 : decode cX9_isPlanOver 8 = .ok (.getfield 281, 3) := by decide +kernel
theorem dX9_isPlanOver_11 : decode cX9_isPlanOver 11 = .ok (.getfield 293, 3) := by decide +kernel
theorem dX9_isPlanOver_14 : decode cX9_isPlanOver 14 = .ok (.ifCond .eq 27, 3) := by decide +kernel
theorem dX9_isPlanOver_17 : decode cX9_isPlanOver 17 = .ok (.aload_n 0, 1) := by decide +kernel
theorem dX9_isPlanOver_18 : decode cX9_isPlanOver 18 = .ok (.getfield 48, 3) := by decide +kernel
theorem dX9_isPlanOver_21 : decode cX9_isPlanOver 21 = .ok (.getfield 320, 3) := by decide +kernel
theorem dX9_isPlanOver_24 : decode cX9_isPlanOver 24 = .ok (.aload_n 0, 1) := by decide +kernel
theorem dX9_isPlanOver_25 : decode cX9_isPlanOver 25 = .ok (.getfield 12, 3) := by decide +kernel
theorem dX9_isPlanOver_28 : decode cX9_isPlanOver 28 = .ok (.getfield 281, 3) := by decide +kernel
theorem dX9_isPlanOver_31 : decode cX9_isPlanOver 31 = .ok (.getfield 285, 3) := by decide +kernel
theorem dX9_isPlanOver_34 : decode cX9_isPlanOver 34 = .ok (.if_icmp .lt 7, 3) := by decide +kernel
theorem dX9_isPlanOver_37 : decode cX9_isPlanOver 37 = .ok (.iconst 1, 1) := by decide +kernel
theorem dX9_isPlanOver_38 : decode cX9_isPlanOver 38 = .ok (.goto 4, 3) := by decide +kernel
theorem dX9_isPlanOver_41 : decode cX9_isPlanOver 41 = .ok (.iconst 0, 1) := by decide +kernel
theorem dX9_isPlanOver_42 : decode cX9_isPlanOver 42 = .ok (.ireturn, 1) := by decide +kernel
theorem dX9_writeWeek_0 : decode cX9_writeWeek 0 = .ok (.aload_n 0, 1) := by decide +kernel
theorem dX9_writeWeek_1 : decode cX9_writeWeek 1 = .ok (.iload_n 1, 1) := by decide +kernel
theorem dX9_writeWeek_2 : decode cX9_writeWeek 2 = .ok (.invokevirtual 83, 3) := by decide +kernel
theorem dX9_writeWeek_5 : decode cX9_writeWeek 5 = .ok (.iconst 0, 1) := by decide +kernel
theorem dX9_writeWeek_6 : decode cX9_writeWeek 6 = .ok (.istore_n 2, 1) := by decide +kernel
theorem dX9_writeWeek_7 : decode cX9_writeWeek 7 = .ok (.iload_n 2, 1) := by decide +kernel
theorem dX9_writeWeek_8 : decode cX9_writeWeek 8 = .ok (.bipush 7, 2) := by decide +kernel
theorem dX9_writeWeek_10 : decode cX9_writeWeek 10 = .ok (.if_icmp .ge 40, 3) := by decide +kernel
theorem dX9_writeWeek_13 : decode cX9_writeWeek 13 = .ok (.iload_n 2, 1) := by decide +kernel
theorem dX9_writeWeek_14 : decode cX9_writeWeek 14 = .ok (.ifCond .le 15, 3) := by decide +kernel
theorem dX9_writeWeek_17 : decode cX9_writeWeek 17 = .ok (.aload_n 0, 1) := by decide +kernel
theorem dX9_writeWeek_18 : decode cX9_writeWeek 18 = .ok (.getfield 30, 3) := by decide +kernel
theorem dX9_writeWeek_21 : decode cX9_writeWeek 21 = .ok (.iconst 2, 1) := by decide +kernel
theorem dX9_writeWeek_22 : decode cX9_writeWeek 22 = .ok (.iload_n 2, 1) := by decide +kernel
theorem dX9_writeWeek_23 : decode cX9_writeWeek 23 = .ok (.imul, 1) := by decide +kernel
theorem dX9_writeWeek_24 : decode cX9_writeWeek 24 = .ok (.iconst 1, 1) := by decide +kernel
theorem dX9_writeWeek_25 : decode cX9_writeWeek 25 = .ok (.isub, 1) := by decide +kernel
theorem dX9_writeWeek_26 : decode cX9_writeWeek 26 = .ok (.bipush 32, 2) := by decide +kernel
theorem dX9_writeWeek_28 : decode cX9_writeWeek 28 = .ok (.castore, 1) := by decide +kernel
theorem dX9_writeWeek_29 : decode cX9_writeWeek 29 = .ok (.aload_n 0, 1) := by decide +kernel
theorem dX9_writeWeek_30 : decode cX9_writeWeek 30 = .ok (.getfield 30, 3) := by decide +kernel
theorem dX9_writeWeek_33 : decode cX9_writeWeek 33 = .ok (.iconst 2, 1) := by decide +kernel
theorem dX9_writeWeek_34 : decode cX9_writeWeek 34 = .ok (.iload_n 2, 1) := by decide +kernel
theorem dX9_writeWeek_35 : decode cX9_writeWeek 35 = .ok (.imul, 1) := by decide +kernel
theorem dX9_writeWeek_36 : decode cX9_writeWeek 36 = .ok (.aload_n 0, 1) := by decide +kernel
theorem dX9_writeWeek_37 : decode cX9_writeWeek 37 = .ok (.iload_n 1, 1) := by decide +kernel
theorem dX9_writeWeek_38 : decode cX9_writeWeek 38 = .ok (.iload_n 2, 1) := by decide +kernel
theorem dX9_writeWeek_39 : decode cX9_writeWeek 39 = .ok (.iadd, 1) := by decide +kernel
theorem dX9_writeWeek_40 : decode cX9_writeWeek 40 = .ok (.invokevirtual 323, 3) := by decide +kernel
theorem dX9_writeWeek_43 : decode cX9_writeWeek 43 = .ok (.castore, 1) := by decide +kernel
theorem dX9_writeWeek_44 : decode cX9_writeWeek 44 = .ok (.iinc 2 1, 3) := by decide +kernel
theorem dX9_writeWeek_47 : decode cX9_writeWeek 47 = .ok (.goto (-40), 3) := by decide +kernel
theorem dX9_writeWeek_50 : decode cX9_writeWeek 50 = .ok (.aload_n 0, 1) := by decide +kernel
theorem dX9_writeWeek_51 : decode cX9_writeWeek 51 = .ok (.bipush 13, 2) := by decide +kernel
theorem dX9_writeWeek_53 : decode cX9_writeWeek 53 = .ok (.putfield 34, 3) := by decide +kernel
theorem dX9_writeWeek_56 : decode cX9_writeWeek 56 = .ok (.aload_n 0, 1) := by decide +kernel
theorem dX9_writeWeek_57 : decode cX9_writeWeek 57 = .ok (.getfield 34, 3) := by decide +kernel
theorem dX9_writeWeek_60 : decode cX9_writeWeek 60 = .ok (.ireturn, 1) := by decide +kernel
theorem dX9_lineAt_0 : decode cX9_lineAt 0 = .ok (.iload_n 1, 1) := by decide +kernel
theorem dX9_lineAt_1 : decode cX9_lineAt 1 = .ok (.ifCond .lt 11, 3) := by decide +kernel
theorem dX9_lineAt_4 : decode cX9_lineAt 4 = .ok (.iload_n 1, 1) := by decide +kernel
theorem dX9_lineAt_5 : decode cX9_lineAt 5 = .ok (.aload_n 0, 1) := by decide +kernel
theorem dX9_lineAt_6 : decode cX9_lineAt 6 = .ok (.getfield 34, 3) := by decide +kernel
theorem dX9_lineAt_9 : decode cX9_lineAt 9 = .ok (.if_icmp .lt 14, 3) := by decide +kernel
theorem dX9_lineAt_12 : decode cX9_lineAt 12 = .ok (.new 200, 3) := by decide +kernel
theorem dX9_lineAt_15 : decode cX9_lineAt 15 = .ok (.dup, 1) := by decide +kernel
theorem dX9_lineAt_16 : decode cX9_lineAt 16 = .ok (.ldc_w 327, 3) := by decide +kernel
theorem dX9_lineAt_19 : decode cX9_lineAt 19 = .ok (.invokespecial 204, 3) := by decide +kernel
theorem dX9_lineAt_22 : decode cX9_lineAt 22 = .ok (.athrow, 1) := by decide +kernel
theorem dX9_lineAt_23 : decode cX9_lineAt 23 = .ok (.aload_n 0, 1) := by decide +kernel
theorem dX9_lineAt_24 : decode cX9_lineAt 24 = .ok (.getfield 30, 3) := by decide +kernel
theorem dX9_lineAt_27 : decode cX9_lineAt 27 = .ok (.iload_n 1, 1) := by decide +kernel
theorem dX9_lineAt_28 : decode cX9_lineAt 28 = .ok (.caload, 1) := by decide +kernel
theorem dX9_lineAt_29 : decode cX9_lineAt 29 = .ok (.ireturn, 1) := by decide +kernel
theorem dX9_undo_0 : decode cX9_undo 0 = .ok (.aload_n 0, 1) := by decide +kernel
theorem dX9_undo_1 : decode cX9_undo 1 = .ok (.getfield 19, 3) := by decide +kernel
theorem dX9_undo_4 : decode cX9_undo 4 = .ok (.getfield 329, 3) := by decide +kernel
theorem dX9_undo_7 : decode cX9_undo 7 = .ok (.ifCond .ne 14, 3) := by decide +kernel
theorem dX9_undo_10 : decode cX9_undo 10 = .ok (.new 72, 3) := by decide +kernel
theorem dX9_undo_13 : decode cX9_undo 13 = .ok (.dup, 1) := by decide +kernel
theorem dX9_undo_14 : decode cX9_undo 14 = .ok (.ldc_w 330, 3) := by decide +kernel
theorem dX9_undo_17 : decode cX9_undo 17 = .ok (.invokespecial 76, 3) := by decide +kernel
theorem dX9_undo_20 : decode cX9_undo 20 = .ok (.athrow, 1) := by decide +kernel
theorem dX9_undo_21 : decode cX9_undo 21 = .ok (.aload_n 0, 1) := by decide +kernel
theorem dX9_undo_22 : decode cX9_undo 22 = .ok (.getfield 19, 3) := by decide +kernel
theorem dX9_undo_25 : decode cX9_undo 25 = .ok (.aload_n 0, 1) := by decide +kernel
theorem dX9_undo_26 : decode cX9_undo 26 = .ok (.getfield 12, 3) := by decide +kernel
theorem dX9_undo_29 : decode cX9_undo 29 = .ok (.invokevirtual 332, 3) := by decide +kernel
theorem dX9_undo_32 : decode cX9_undo 32 = .ok (.aload_n 0, 1) := by decide +kernel
theorem dX9_undo_33 : decode cX9_undo 33 = .ok (.getfield 41, 3) := by decide +kernel
theorem dX9_undo_36 : decode cX9_undo 36 = .ok (.iconst 0, 1) := by decide +kernel
theorem dX9_undo_37 : decode cX9_undo 37 = .ok (.invokevirtual 110, 3) := by decide +kernel
theorem dX9_undo_40 : decode cX9_undo 40 = .ok (.aload_n 0, 1) := by decide +kernel
theorem dX9_undo_41 : decode cX9_undo 41 = .ok (.getfield 19, 3) := by decide +kernel
theorem dX9_undo_44 : decode cX9_undo 44 = .ok (.getfield 329, 3) := by decide +kernel
theorem dX9_undo_47 : decode cX9_undo 47 = .ok (.ireturn, 1) := by decide +kernel
theorem dX9_save_0 : decode cX9_save 0 = .ok (.aload_n 0, 1) := by decide +kernel
theorem dX9_save_1 : decode cX9_save 1 = .ok (.getfield 23, 3) := by decide +kernel
theorem dX9_save_4 : decode cX9_save 4 = .ok (.aload_n 0, 1) := by decide +kernel
theorem dX9_save_5 : decode cX9_save 5 = .ok (.getfield 12, 3) := by decide +kernel
theorem dX9_save_8 : decode cX9_save 8 = .ok (.invokevirtual 335, 3) := by decide +kernel
theorem dX9_save_11 : decode cX9_save 11 = .ok (.aload_n 0, 1) := by decide +kernel
theorem dX9_save_12 : decode cX9_save 12 = .ok (.iconst 1, 1) := by decide +kernel
theorem dX9_save_13 : decode cX9_save 13 = .ok (.putfield 26, 3) := by decide +kernel
theorem dX9_save_16 : decode cX9_save 16 = .ok (.aload_n 0, 1) := by decide +kernel
theorem dX9_save_17 : decode cX9_save 17 = .ok (.getfield 12, 3) := by decide +kernel
theorem dX9_save_20 : decode cX9_save 20 = .ok (.getfield 156, 3) := by decide +kernel
theorem dX9_save_23 : decode cX9_save 23 = .ok (.getfield 160, 3) := by decide +kernel
theorem dX9_save_26 : decode cX9_save 26 = .ok (.ireturn, 1) := by decide +kernel
theorem dX9_restore_0 : decode cX9_restore 0 = .ok (.aload_n 0, 1) := by decide +kernel
theorem dX9_restore_1 : decode cX9_restore 1 = .ok (.getfield 26, 3) := by decide +kernel
theorem dX9_restore_4 : decode cX9_restore 4 = .ok (.ifCond .ne 14, 3) := by decide +kernel
theorem dX9_restore_7 : decode cX9_restore 7 = .ok (.new 72, 3) := by decide +kernel
theorem dX9_restore_10 : decode cX9_restore 10 = .ok (.dup, 1) := by decide +kernel
theorem dX9_restore_11 : decode cX9_restore 11 = .ok (.ldc_w 338, 3) := by decide +kernel
theorem dX9_restore_14 : decode cX9_restore 14 = .ok (.invokespecial 76, 3) := by decide +kernel
theorem dX9_restore_17 : decode cX9_restore 17 = .ok (.athrow, 1) := by decide +kernel
theorem dX9_restore_18 : decode cX9_restore 18 = .ok (.aload_n 0, 1) := by decide +kernel
theorem dX9_restore_19 : decode cX9_restore 19 = .ok (.getfield 12, 3) := by decide +kernel
theorem dX9_restore_22 : decode cX9_restore 22 = .ok (.aload_n 0, 1) := by decide +kernel
theorem dX9_restore_23 : decode cX9_restore 23 = .ok (.getfield 23, 3) := by decide +kernel
theorem dX9_restore_26 : decode cX9_restore 26 = .ok (.invokevirtual 335, 3) := by decide +kernel
theorem dX9_restore_29 : decode cX9_restore 29 = .ok (.aload_n 0, 1) := by decide +kernel
theorem dX9_restore_30 : decode cX9_restore 30 = .ok (.getfield 19, 3) := by decide +kernel
theorem dX9_restore_33 : decode cX9_restore 33 = .ok (.invokevirtual 340, 3) := by decide +kernel
theorem dX9_restore_36 : decode cX9_restore 36 = .ok (.aload_n 0, 1) := by decide +kernel
theorem dX9_restore_37 : decode cX9_restore 37 = .ok (.getfield 41, 3) := by decide +kernel
theorem dX9_restore_40 : decode cX9_restore 40 = .ok (.iconst 0, 1) := by decide +kernel
theorem dX9_restore_41 : decode cX9_restore 41 = .ok (.invokevirtual 110, 3) := by decide +kernel
theorem dX9_restore_44 : decode cX9_restore 44 = .ok (.aload_n 0, 1) := by decide +kernel
theorem dX9_restore_45 : decode cX9_restore 45 = .ok (.getfield 12, 3) := by decide +kernel
theorem dX9_restore_48 : decode cX9_restore 48 = .ok (.getfield 156, 3) := by decide +kernel
theorem dX9_restore_51 : decode cX9_restore 51 = .ok (.getfield 160, 3) := by decide +kernel
theorem dX9_restore_54 : decode cX9_restore 54 = .ok (.ireturn, 1) := by decide +kernel
theorem dX9_requireRange_0 : decode cX9_requireRange 0 = .ok (.iload_n 0, 1) := by decide +kernel
theorem dX9_requireRange_1 : decode cX9_requireRange 1 = .ok (.iload_n 1, 1) := by decide +kernel
theorem dX9_requireRange_2 : decode cX9_requireRange 2 = .ok (.if_icmp .lt 8, 3) := by decide +kernel
theorem dX9_requireRange_5 : decode cX9_requireRange 5 = .ok (.iload_n 0, 1) := by decide +kernel
theorem dX9_requireRange_6 : decode cX9_requireRange 6 = .ok (.iload_n 2, 1) := by decide +kernel
theorem dX9_requireRange_7 : decode cX9_requireRange 7 = .ok (.if_icmp .le 14, 3) := by decide +kernel
theorem dX9_requireRange_10 : decode cX9_requireRange 10 = .ok (.new 343, 3) := by decide +kernel
theorem dX9_requireRange_13 : decode cX9_requireRange 13 = .ok (.dup, 1) := by decide +kernel
theorem dX9_requireRange_14 : decode cX9_requireRange 14 = .ok (.ldc_w 345, 3) := by decide +kernel
theorem dX9_requireRange_17 : decode cX9_requireRange 17 = .ok (.invokespecial 347, 3) := by decide +kernel
theorem dX9_requireRange_20 : decode cX9_requireRange 20 = .ok (.athrow, 1) := by decide +kernel
theorem dX9_requireRange_21 : decode cX9_requireRange 21 = .ok (.return_, 1) := by decide +kernel
theorem dX9_requireZone_0 : decode cX9_requireZone 0 = .ok (.iload_n 0, 1) := by decide +kernel
theorem dX9_requireZone_1 : decode cX9_requireZone 1 = .ok (.iconst 1, 1) := by decide +kernel
theorem dX9_requireZone_2 : decode cX9_requireZone 2 = .ok (.iconst 5, 1) := by decide +kernel
theorem dX9_requireZone_3 : decode cX9_requireZone 3 = .ok (.invokestatic 65, 3) := by decide +kernel
theorem dX9_requireZone_6 : decode cX9_requireZone 6 = .ok (.return_, 1) := by decide +kernel
theorem dX9_requireDayUpToToday_0 : decode cX9_requireDayUpToToday 0 = .ok (.iload_n 1, 1) := by decide +kernel
theorem dX9_requireDayUpToToday_1 : decode cX9_requireDayUpToToday 1 = .ok (.iconst 0, 1) := by decide +kernel
theorem dX9_requireDayUpToToday_2 : decode cX9_requireDayUpToToday 2 = .ok (.aload_n 0, 1) := by decide +kernel
theorem dX9_requireDayUpToToday_3 : decode cX9_requireDayUpToToday 3 = .ok (.getfield 12, 3) := by decide +kernel
theorem dX9_requireDayUpToToday_6 : decode cX9_requireDayUpToToday 6 = .ok (.getfield 69, 3) := by decide +kernel
theorem dX9_requireDayUpToToday_9 : decode cX9_requireDayUpToToday 9 = .ok (.invokestatic 65, 3) := by decide +kernel
theorem dX9_requireDayUpToToday_12 : decode cX9_requireDayUpToToday 12 = .ok (.return_, 1) := by decide +kernel
theorem dX9_requireRowOfDays_0 : decode cX9_requireRowOfDays 0 = .ok (.iload_n 1, 1) := by decide +kernel
theorem dX9_requireRowOfDays_1 : decode cX9_requireRowOfDays 1 = .ok (.iconst 1, 1) := by decide +kernel
theorem dX9_requireRowOfDays_2 : decode cX9_requireRowOfDays 2 = .ok (.bipush 60, 2) := by decide +kernel
theorem dX9_requireRowOfDays_4 : decode cX9_requireRowOfDays 4 = .ok (.invokestatic 65, 3) := by decide +kernel
theorem dX9_requireRowOfDays_7 : decode cX9_requireRowOfDays 7 = .ok (.aload_n 0, 1) := by decide +kernel
theorem dX9_requireRowOfDays_8 : decode cX9_requireRowOfDays 8 = .ok (.getfield 12, 3) := by decide +kernel
theorem dX9_requireRowOfDays_11 : decode cX9_requireRowOfDays 11 = .ok (.getfield 69, 3) := by decide +kernel
theorem dX9_requireRowOfDays_14 : decode cX9_requireRowOfDays 14 = .ok (.iload_n 1, 1) := by decide +kernel
theorem dX9_requireRowOfDays_15 : decode cX9_requireRowOfDays 15 = .ok (.iconst 1, 1) := by decide +kernel
theorem dX9_requireRowOfDays_16 : decode cX9_requireRowOfDays 16 = .ok (.isub, 1) := by decide +kernel
theorem dX9_requireRowOfDays_17 : decode cX9_requireRowOfDays 17 = .ok (.if_icmp .ge 14, 3) := by decide +kernel
theorem dX9_requireRowOfDays_20 : decode cX9_requireRowOfDays 20 = .ok (.new 117, 3) := by decide +kernel
theorem dX9_requireRowOfDays_23 : decode cX9_requireRowOfDays 23 = .ok (.dup, 1) := by decide +kernel
theorem dX9_requireRowOfDays_24 : decode cX9_requireRowOfDays 24 = .ok (.ldc_w 348, 3) := by decide +kernel
theorem dX9_requireRowOfDays_27 : decode cX9_requireRowOfDays 27 = .ok (.invokespecial 121, 3) := by decide +kernel
theorem dX9_requireRowOfDays_30 : decode cX9_requireRowOfDays 30 = .ok (.athrow, 1) := by decide +kernel
theorem dX9_requireRowOfDays_31 : decode cX9_requireRowOfDays 31 = .ok (.return_, 1) := by decide +kernel
theorem dX9_requireRowOfMinutes_0 : decode cX9_requireRowOfMinutes 0 = .ok (.iload_n 1, 1) := by decide +kernel
theorem dX9_requireRowOfMinutes_1 : decode cX9_requireRowOfMinutes 1 = .ok (.iconst 1, 1) := by decide +kernel
theorem dX9_requireRowOfMinutes_2 : decode cX9_requireRowOfMinutes 2 = .ok (.sipush 240, 3) := by decide +kernel
theorem dX9_requireRowOfMinutes_5 : decode cX9_requireRowOfMinutes 5 = .ok (.invokestatic 65, 3) := by decide +kernel
theorem dX9_requireRowOfMinutes_8 : decode cX9_requireRowOfMinutes 8 = .ok (.aload_n 0, 1) := by decide +kernel
theorem dX9_requireRowOfMinutes_9 : decode cX9_requireRowOfMinutes 9 = .ok (.getfield 12, 3) := by decide +kernel
theorem dX9_requireRowOfMinutes_12 : decode cX9_requireRowOfMinutes 12 = .ok (.getfield 156, 3) := by decide +kernel
theorem dX9_requireRowOfMinutes_15 : decode cX9_requireRowOfMinutes 15 = .ok (.iload_n 1, 1) := by decide +kernel
theorem dX9_requireRowOfMinutes_16 : decode cX9_requireRowOfMinutes 16 = .ok (.invokevirtual 350, 3) := by decide +kernel
theorem dX9_requireRowOfMinutes_19 : decode cX9_requireRowOfMinutes 19 = .ok (.ifCond .ne 14, 3) := by decide +kernel
theorem dX9_requireRowOfMinutes_22 : decode cX9_requireRowOfMinutes 22 = .ok (.new 117, 3) := by decide +kernel
theorem dX9_requireRowOfMinutes_25 : decode cX9_requireRowOfMinutes 25 = .ok (.dup, 1) := by decide +kernel
theorem dX9_requireRowOfMinutes_26 : decode cX9_requireRowOfMinutes 26 = .ok (.ldc_w 354, 3) := by decide +kernel
theorem dX9_requireRowOfMinutes_29 : decode cX9_requireRowOfMinutes 29 = .ok (.invokespecial 121, 3) := by decide +kernel
theorem dX9_requireRowOfMinutes_32 : decode cX9_requireRowOfMinutes 32 = .ok (.athrow, 1) := by decide +kernel
theorem dX9_requireRowOfMinutes_33 : decode cX9_requireRowOfMinutes 33 = .ok (.return_, 1) := by decide +kernel
theorem dX9_existingPosition_0 : decode cX9_existingPosition 0 = .ok (.aload_n 0, 1) := by decide +kernel
theorem dX9_existingPosition_1 : decode cX9_existingPosition 1 = .ok (.getfield 12, 3) := by decide +kernel
theorem dX9_existingPosition_4 : decode cX9_existingPosition 4 = .ok (.getfield 156, 3) := by decide +kernel
theorem dX9_existingPosition_7 : decode cX9_existingPosition 7 = .ok (.iload_n 1, 1) := by decide +kernel
theorem dX9_existingPosition_8 : decode cX9_existingPosition 8 = .ok (.invokevirtual 356, 3) := by decide +kernel
theorem dX9_existingPosition_11 : decode cX9_existingPosition 11 = .ok (.istore_n 2, 1) := by decide +kernel
theorem dX9_existingPosition_12 : decode cX9_existingPosition 12 = .ok (.iload_n 2, 1) := by decide +kernel
theorem dX9_existingPosition_13 : decode cX9_existingPosition 13 = .ok (.ifCond .ge 14, 3) := by decide +kernel
theorem dX9_existingPosition_16 : decode cX9_existingPosition 16 = .ok (.new 117, 3) := by decide +kernel
theorem dX9_existingPosition_19 : decode cX9_existingPosition 19 = .ok (.dup, 1) := by decide +kernel
theorem dX9_existingPosition_20 : decode cX9_existingPosition 20 = .ok (.ldc_w 359, 3) := by decide +kernel
theorem dX9_existingPosition_23 : decode cX9_existingPosition 23 = .ok (.invokespecial 121, 3) := by decide +kernel
theorem dX9_existingPosition_26 : decode cX9_existingPosition 26 = .ok (.athrow, 1) := by decide +kernel
theorem dX9_existingPosition_27 : decode cX9_existingPosition 27 = .ok (.iload_n 2, 1) := by decide +kernel
theorem dX9_existingPosition_28 : decode cX9_existingPosition 28 = .ok (.ireturn, 1) := by decide +kernel
theorem dX9_existingSession_0 : decode cX9_existingSession 0 = .ok (.aload_n 0, 1) := by decide +kernel
theorem dX9_existingSession_1 : decode cX9_existingSession 1 = .ok (.getfield 12, 3) := by decide +kernel
theorem dX9_existingSession_4 : decode cX9_existingSession 4 = .ok (.getfield 156, 3) := by decide +kernel
theorem dX9_existingSession_7 : decode cX9_existingSession 7 = .ok (.getfield 205, 3) := by decide +kernel
theorem dX9_existingSession_10 : decode cX9_existingSession 10 = .ok (.aload_n 0, 1) := by decide +kernel
theorem dX9_existingSession_11 : decode cX9_existingSession 11 = .ok (.iload_n 1, 1) := by decide +kernel
theorem dX9_existingSession_12 : decode cX9_existingSession 12 = .ok (.invokevirtual 187, 3) := by decide +kernel
theorem dX9_existingSession_15 : decode cX9_existingSession 15 = .ok (.aaload, 1) := by decide +kernel
theorem dX9_existingSession_16 : decode cX9_existingSession 16 = .ok (.areturn, 1) := by decide +kernel
theorem dX9_clear_0 : decode cX9_clear 0 = .ok (.iconst 0, 1) := by decide +kernel
theorem dX9_clear_1 : decode cX9_clear 1 = .ok (.istore_n 1, 1) := by decide +kernel
theorem dX9_clear_2 : decode cX9_clear 2 = .ok (.iload_n 1, 1) := by decide +kernel
theorem dX9_clear_3 : decode cX9_clear 3 = .ok (.aload_n 0, 1) := by decide +kernel
theorem dX9_clear_4 : decode cX9_clear 4 = .ok (.arraylength, 1) := by decide +kernel
theorem dX9_clear_5 : decode cX9_clear 5 = .ok (.if_icmp .ge 13, 3) := by decide +kernel
theorem dX9_clear_8 : decode cX9_clear 8 = .ok (.aload_n 0, 1) := by decide +kernel
theorem dX9_clear_9 : decode cX9_clear 9 = .ok (.iload_n 1, 1) := by decide +kernel
theorem dX9_clear_10 : decode cX9_clear 10 = .ok (.iconst 0, 1) := by decide +kernel
theorem dX9_clear_11 : decode cX9_clear 11 = .ok (.iastore, 1) := by decide +kernel
theorem dX9_clear_12 : decode cX9_clear 12 = .ok (.iinc 1 1, 3) := by decide +kernel
theorem dX9_clear_15 : decode cX9_clear 15 = .ok (.goto (-13), 3) := by decide +kernel
theorem dX9_clear_18 : decode cX9_clear 18 = .ok (.return_, 1) := by decide +kernel
theorem dX9_sumOfLoads_0 : decode cX9_sumOfLoads 0 = .ok (.iconst 0, 1) := by decide +kernel
theorem dX9_sumOfLoads_1 : decode cX9_sumOfLoads 1 = .ok (.istore_n 3, 1) := by decide +kernel
theorem dX9_sumOfLoads_2 : decode cX9_sumOfLoads 2 = .ok (.iload_n 1, 1) := by decide +kernel
theorem dX9_sumOfLoads_3 : decode cX9_sumOfLoads 3 = .ok (.istore 4, 2) := by decide +kernel
theorem dX9_sumOfLoads_5 : decode cX9_sumOfLoads 5 = .ok (.iload 4, 2) := by decide +kernel
theorem dX9_sumOfLoads_7 : decode cX9_sumOfLoads 7 = .ok (.iload_n 1, 1) := by decide +kernel
theorem dX9_sumOfLoads_8 : decode cX9_sumOfLoads 8 = .ok (.iload_n 2, 1) := by decide +kernel
theorem dX9_sumOfLoads_9 : decode cX9_sumOfLoads 9 = .ok (.iadd, 1) := by decide +kernel
theorem dX9_sumOfLoads_10 : decode cX9_sumOfLoads 10 = .ok (.if_icmp .ge 19, 3) := by decide +kernel
theorem dX9_sumOfLoads_13 : decode cX9_sumOfLoads 13 = .ok (.iload_n 3, 1) := by decide +kernel
theorem dX9_sumOfLoads_14 : decode cX9_sumOfLoads 14 = .ok (.aload_n 0, 1) := by decide +kernel
theorem dX9_sumOfLoads_15 : decode cX9_sumOfLoads 15 = .ok (.getfield 52, 3) := by decide +kernel
theorem dX9_sumOfLoads_18 : decode cX9_sumOfLoads 18 = .ok (.iload 4, 2) := by decide +kernel
theorem dX9_sumOfLoads_20 : decode cX9_sumOfLoads 20 = .ok (.iaload, 1) := by decide +kernel
theorem dX9_sumOfLoads_21 : decode cX9_sumOfLoads 21 = .ok (.iadd, 1) := by decide +kernel
theorem dX9_sumOfLoads_22 : decode cX9_sumOfLoads 22 = .ok (.istore_n 3, 1) := by decide +kernel
theorem dX9_sumOfLoads_23 : decode cX9_sumOfLoads 23 = .ok (.iinc 4 1, 3) := by decide +kernel
theorem dX9_sumOfLoads_26 : decode cX9_sumOfLoads 26 = .ok (.goto (-21), 3) := by decide +kernel
theorem dX9_sumOfLoads_29 : decode cX9_sumOfLoads 29 = .ok (.iload_n 3, 1) := by decide +kernel
theorem dX9_sumOfLoads_30 : decode cX9_sumOfLoads 30 = .ok (.ireturn, 1) := by decide +kernel
theorem dX9_nextFitness_0 : decode cX9_nextFitness 0 = .ok (.iload_n 0, 1) := by decide +kernel
theorem dX9_nextFitness_1 : decode cX9_nextFitness 1 = .ok (.sipush 1000, 3) := by decide +kernel
theorem dX9_nextFitness_4 : decode cX9_nextFitness 4 = .ok (.iload_n 1, 1) := by decide +kernel
theorem dX9_nextFitness_5 : decode cX9_nextFitness 5 = .ok (.imul, 1) := by decide +kernel
theorem dX9_nextFitness_6 : decode cX9_nextFitness 6 = .ok (.iload_n 0, 1) := by decide +kernel
theorem dX9_nextFitness_7 : decode cX9_nextFitness 7 = .ok (.isub, 1) := by decide +kernel
theorem dX9_nextFitness_8 : decode cX9_nextFitness 8 = .ok (.bipush 42, 2) := by decide +kernel
theorem dX9_nextFitness_10 : decode cX9_nextFitness 10 = .ok (.idiv, 1) := by decide +kernel
theorem dX9_nextFitness_11 : decode cX9_nextFitness 11 = .ok (.iadd, 1) := by decide +kernel
theorem dX9_nextFitness_12 : decode cX9_nextFitness 12 = .ok (.ireturn, 1) := by decide +kernel
theorem dX9_nextFatigue_0 : decode cX9_nextFatigue 0 = .ok (.iload_n 0, 1) := by decide +kernel
theorem dX9_nextFatigue_1 : decode cX9_nextFatigue 1 = .ok (.sipush 1000, 3) := by decide +kernel
theorem dX9_nextFatigue_4 : decode cX9_nextFatigue 4 = .ok (.iload_n 1, 1) := by decide +kernel
theorem dX9_nextFatigue_5 : decode cX9_nextFatigue 5 = .ok (.imul, 1) := by decide +kernel
theorem dX9_nextFatigue_6 : decode cX9_nextFatigue 6 = .ok (.iload_n 0, 1) := by decide +kernel
theorem dX9_nextFatigue_7 : decode cX9_nextFatigue 7 = .ok (.isub, 1) := by decide +kernel
theorem dX9_nextFatigue_8 : decode cX9_nextFatigue 8 = .ok (.bipush 7, 2) := by decide +kernel
theorem dX9_nextFatigue_10 : decode cX9_nextFatigue 10 = .ok (.idiv, 1) := by decide +kernel
theorem dX9_nextFatigue_11 : decode cX9_nextFatigue 11 = .ok (.iadd, 1) := by decide +kernel
theorem dX9_nextFatigue_12 : decode cX9_nextFatigue 12 = .ok (.ireturn, 1) := by decide +kernel
theorem dX9_learnTrend_0 : decode cX9_learnTrend 0 = .ok (.iload_n 1, 1) := by decide +kernel
theorem dX9_learnTrend_1 : decode cX9_learnTrend 1 = .ok (.aload_n 0, 1) := by decide +kernel
theorem dX9_learnTrend_2 : decode cX9_learnTrend 2 = .ok (.getfield 41, 3) := by decide +kernel
theorem dX9_learnTrend_5 : decode cX9_learnTrend 5 = .ok (.getfield 361, 3) := by decide +kernel
theorem dX9_learnTrend_8 : decode cX9_learnTrend 8 = .ok (.if_icmp .ge 4, 3) := by decide +kernel
theorem dX9_learnTrend_11 : decode cX9_learnTrend 11 = .ok (.return_, 1) := by decide +kernel
theorem dX9_learnTrend_12 : decode cX9_learnTrend 12 = .ok (.aload_n 0, 1) := by decide +kernel
theorem dX9_learnTrend_13 : decode cX9_learnTrend 13 = .ok (.getfield 12, 3) := by decide +kernel
theorem dX9_learnTrend_16 : decode cX9_learnTrend 16 = .ok (.aload_n 0, 1) := by decide +kernel
theorem dX9_learnTrend_17 : decode cX9_learnTrend 17 = .ok (.getfield 52, 3) := by decide +kernel
theorem dX9_learnTrend_20 : decode cX9_learnTrend 20 = .ok (.invokevirtual 223, 3) := by decide +kernel
theorem dX9_learnTrend_23 : decode cX9_learnTrend 23 = .ok (.aload_n 0, 1) := by decide +kernel
theorem dX9_learnTrend_24 : decode cX9_learnTrend 24 = .ok (.getfield 41, 3) := by decide +kernel
theorem dX9_learnTrend_27 : decode cX9_learnTrend 27 = .ok (.getfield 361, 3) := by decide +kernel
theorem dX9_learnTrend_30 : decode cX9_learnTrend 30 = .ok (.istore_n 2, 1) := by decide +kernel
theorem dX9_learnTrend_31 : decode cX9_learnTrend 31 = .ok (.iload_n 2, 1) := by decide +kernel
theorem dX9_learnTrend_32 : decode cX9_learnTrend 32 = .ok (.iload_n 1, 1) := by decide +kernel
theorem dX9_learnTrend_33 : decode cX9_learnTrend 33 = .ok (.if_icmp .gt 61, 3) := by decide +kernel
theorem dX9_learnTrend_36 : decode cX9_learnTrend 36 = .ok (.aload_n 0, 1) := by decide +kernel
theorem dX9_learnTrend_37 : decode cX9_learnTrend 37 = .ok (.getfield 41, 3) := by decide +kernel
theorem dX9_learnTrend_40 : decode cX9_learnTrend 40 = .ok (.getfield 237, 3) := by decide +kernel
theorem dX9_learnTrend_43 : decode cX9_learnTrend 43 = .ok (.iload_n 2, 1) := by decide +kernel
theorem dX9_learnTrend_44 : decode cX9_learnTrend 44 = .ok (.aload_n 0, 1) := by decide +kernel
theorem dX9_learnTrend_45 : decode cX9_learnTrend 45 = .ok (.getfield 41, 3) := by decide +kernel
theorem dX9_learnTrend_48 : decode cX9_learnTrend 48 = .ok (.iload_n 2, 1) := by decide +kernel
theorem dX9_learnTrend_49 : decode cX9_learnTrend 49 = .ok (.invokevirtual 249, 3) := by decide +kernel
theorem dX9_learnTrend_52 : decode cX9_learnTrend 52 = .ok (.aload_n 0, 1) := by decide +kernel
theorem dX9_learnTrend_53 : decode cX9_learnTrend 53 = .ok (.getfield 52, 3) := by decide +kernel
theorem dX9_learnTrend_56 : decode cX9_learnTrend 56 = .ok (.iload_n 2, 1) := by decide +kernel
theorem dX9_learnTrend_57 : decode cX9_learnTrend 57 = .ok (.iaload, 1) := by decide +kernel
theorem dX9_learnTrend_58 : decode cX9_learnTrend 58 = .ok (.invokestatic 240, 3) := by decide +kernel
theorem dX9_learnTrend_61 : decode cX9_learnTrend 61 = .ok (.iastore, 1) := by decide +kernel
theorem dX9_learnTrend_62 : decode cX9_learnTrend 62 = .ok (.aload_n 0, 1) := by decide +kernel
theorem dX9_learnTrend_63 : decode cX9_learnTrend 63 = .ok (.getfield 41, 3) := by decide +kernel
theorem dX9_learnTrend_66 : decode cX9_learnTrend 66 = .ok (.getfield 243, 3) := by decide +kernel
theorem dX9_learnTrend_69 : decode cX9_learnTrend 69 = .ok (.iload_n 2, 1) := by decide +kernel
theorem dX9_learnTrend_70 : decode cX9_learnTrend 70 = .ok (.aload_n 0, 1) := by decide +kernel
theorem dX9_learnTrend_71 : decode cX9_learnTrend 71 = .ok (.getfield 41, 3) := by decide +kernel
theorem dX9_learnTrend_74 : decode cX9_learnTrend 74 = .ok (.iload_n 2, 1) := by decide +kernel
theorem dX9_learnTrend_75 : decode cX9_learnTrend 75 = .ok (.invokevirtual 252, 3) := by decide +kernel
theorem dX9_learnTrend_78 : decode cX9_learnTrend 78 = .ok (.aload_n 0, 1) := by decide +kernel
theorem dX9_learnTrend_79 : decode cX9_learnTrend 79 = .ok (.getfield 52, 3) := by decide +kernel
theorem dX9_learnTrend_82 : decode cX9_learnTrend 82 = .ok (.iload_n 2, 1) := by decide +kernel
theorem dX9_learnTrend_83 : decode cX9_learnTrend 83 = .ok (.iaload, 1) := by decide +kernel
theorem dX9_learnTrend_84 : decode cX9_learnTrend 84 = .ok (.invokestatic 246, 3) := by decide +kernel
theorem dX9_learnTrend_87 : decode cX9_learnTrend 87 = .ok (.iastore, 1) := by decide +kernel
theorem dX9_learnTrend_88 : decode cX9_learnTrend 88 = .ok (.iinc 2 1, 3) := by decide +kernel
theorem dX9_learnTrend_91 : decode cX9_learnTrend 91 = .ok (.goto (-60), 3) := by decide +kernel
theorem dX9_learnTrend_94 : decode cX9_learnTrend 94 = .ok (.aload_n 0, 1) := by decide +kernel
theorem dX9_learnTrend_95 : decode cX9_learnTrend 95 = .ok (.getfield 41, 3) := by decide +kernel
theorem dX9_learnTrend_98 : decode cX9_learnTrend 98 = .ok (.iload_n 1, 1) := by decide +kernel
theorem dX9_learnTrend_99 : decode cX9_learnTrend 99 = .ok (.iconst 1, 1) := by decide +kernel
theorem dX9_learnTrend_100 : decode cX9_learnTrend 100 = .ok (.iadd, 1) := by decide +kernel
theorem dX9_learnTrend_101 : decode cX9_learnTrend 101 = .ok (.putfield 361, 3) := by decide +kernel
theorem dX9_learnTrend_104 : decode cX9_learnTrend 104 = .ok (.return_, 1) := by decide +kernel
theorem dX9_startOfBestDays_0 : decode cX9_startOfBestDays 0 = .ok (.aload_n 0, 1) := by decide +kernel
theorem dX9_startOfBestDays_1 : decode cX9_startOfBestDays 1 = .ok (.getfield 12, 3) := by decide +kernel
theorem dX9_startOfBestDays_4 : decode cX9_startOfBestDays 4 = .ok (.aload_n 0, 1) := by decide +kernel
theorem dX9_startOfBestDays_5 : decode cX9_startOfBestDays 5 = .ok (.getfield 52, 3) := by decide +kernel
theorem dX9_startOfBestDays_8 : decode cX9_startOfBestDays 8 = .ok (.invokevirtual 223, 3) := by decide +kernel
theorem dX9_startOfBestDays_11 : decode cX9_startOfBestDays 11 = .ok (.aload_n 0, 1) := by decide +kernel
theorem dX9_startOfBestDays_12 : decode cX9_startOfBestDays 12 = .ok (.iconst 0, 1) := by decide +kernel
theorem dX9_startOfBestDays_13 : decode cX9_startOfBestDays 13 = .ok (.iload_n 1, 1) := by decide +kernel
theorem dX9_startOfBestDays_14 : decode cX9_startOfBestDays 14 = .ok (.invokevirtual 231, 3) := by decide +kernel
theorem dX9_startOfBestDays_17 : decode cX9_startOfBestDays 17 = .ok (.istore_n 2, 1) := by decide +kernel
theorem dX9_startOfBestDays_18 : decode cX9_startOfBestDays 18 = .ok (.iload_n 2, 1) := by decide +kernel
theorem dX9_startOfBestDays_19 : decode cX9_startOfBestDays 19 = .ok (.istore_n 3, 1) := by decide +kernel
theorem dX9_startOfBestDays_20 : decode cX9_startOfBestDays 20 = .ok (.iconst 0, 1) := by decide +kernel
theorem dX9_startOfBestDays_21 : decode cX9_startOfBestDays 21 = .ok (.istore 4, 2) := by decide +kernel
theorem dX9_startOfBestDays_23 : decode cX9_startOfBestDays 23 = .ok (.iconst 1, 1) := by decide +kernel
theorem dX9_startOfBestDays_24 : decode cX9_startOfBestDays 24 = .ok (.istore 5, 2) := by decide +kernel
theorem dX9_startOfBestDays_26 : decode cX9_startOfBestDays 26 = .ok (.iload 5, 2) := by decide +kernel
theorem dX9_startOfBestDays_28 : decode cX9_startOfBestDays 28 = .ok (.iload_n 1, 1) := by decide +kernel
theorem dX9_startOfBestDays_29 : decode cX9_startOfBestDays 29 = .ok (.iadd, 1) := by decide +kernel
theorem dX9_startOfBestDays_30 : decode cX9_startOfBestDays 30 = .ok (.aload_n 0, 1) := by decide +kernel
theorem dX9_startOfBestDays_31 : decode cX9_startOfBestDays 31 = .ok (.getfield 12, 3) := by decide +kernel
theorem dX9_startOfBestDays_34 : decode cX9_startOfBestDays 34 = .ok (.getfield 69, 3) := by decide +kernel
theorem dX9_startOfBestDays_37 : decode cX9_startOfBestDays 37 = .ok (.iconst 1, 1) := by decide +kernel
theorem dX9_startOfBestDays_38 : decode cX9_startOfBestDays 38 = .ok (.iadd, 1) := by decide +kernel
theorem dX9_startOfBestDays_39 : decode cX9_startOfBestDays 39 = .ok (.if_icmp .gt 44, 3) := by decide +kernel
theorem dX9_startOfBestDays_42 : decode cX9_startOfBestDays 42 = .ok (.iload_n 2, 1) := by decide +kernel
theorem dX9_startOfBestDays_43 : decode cX9_startOfBestDays 43 = .ok (.aload_n 0, 1) := by decide +kernel
theorem dX9_startOfBestDays_44 : decode cX9_startOfBestDays 44 = .ok (.getfield 52, 3) := by decide +kernel
theorem dX9_startOfBestDays_47 : decode cX9_startOfBestDays 47 = .ok (.iload 5, 2) := by decide +kernel
theorem dX9_startOfBestDays_49 : decode cX9_startOfBestDays 49 = .ok (.iload_n 1, 1) := by decide +kernel
theorem dX9_startOfBestDays_50 : decode cX9_startOfBestDays 50 = .ok (.iadd, 1) := by decide +kernel
theorem dX9_startOfBestDays_51 : decode cX9_startOfBestDays 51 = .ok (.iconst 1, 1) := by decide +kernel
theorem dX9_startOfBestDays_52 : decode cX9_startOfBestDays 52 = .ok (.isub, 1) := by decide +kernel
theorem dX9_startOfBestDays_53 : decode cX9_startOfBestDays 53 = .ok (.iaload, 1) := by decide +kernel
theorem dX9_startOfBestDays_54 : decode cX9_startOfBestDays 54 = .ok (.aload_n 0, 1) := by decide +kernel
theorem dX9_startOfBestDays_55 : decode cX9_startOfBestDays 55 = .ok (.getfield 52, 3) := by decide +kernel
theorem dX9_startOfBestDays_58 : decode cX9_startOfBestDays 58 = .ok (.iload 5, 2) := by decide +kernel
theorem dX9_startOfBestDays_60 : decode cX9_startOfBestDays 60 = .ok (.iconst 1, 1) := by decide +kernel
theorem dX9_startOfBestDays_61 : decode cX9_startOfBestDays 61 = .ok (.isub, 1) := by decide +kernel
theorem dX9_startOfBestDays_62 : decode cX9_startOfBestDays 62 = .ok (.iaload, 1) := by decide +kernel
theorem dX9_startOfBestDays_63 : decode cX9_startOfBestDays 63 = .ok (.isub, 1) := by decide +kernel
theorem dX9_startOfBestDays_64 : decode cX9_startOfBestDays 64 = .ok (.iadd, 1) := by decide +kernel
theorem dX9_startOfBestDays_65 : decode cX9_startOfBestDays 65 = .ok (.istore_n 2, 1) := by decide +kernel
theorem dX9_startOfBestDays_66 : decode cX9_startOfBestDays 66 = .ok (.iload_n 2, 1) := by decide +kernel
theorem dX9_startOfBestDays_67 : decode cX9_startOfBestDays 67 = .ok (.iload_n 3, 1) := by decide +kernel
theorem dX9_startOfBestDays_68 : decode cX9_startOfBestDays 68 = .ok (.if_icmp .le 9, 3) := by decide +kernel
theorem dX9_startOfBestDays_71 : decode cX9_startOfBestDays 71 = .ok (.iload_n 2, 1) := by decide +kernel
theorem dX9_startOfBestDays_72 : decode cX9_startOfBestDays 72 = .ok (.istore_n 3, 1) := by decide +kernel
theorem dX9_startOfBestDays_73 : decode cX9_startOfBestDays 73 = .ok (.iload 5, 2) := by decide +kernel
theorem dX9_startOfBestDays_75 : decode cX9_startOfBestDays 75 = .ok (.istore 4, 2) := by decide +kernel
theorem dX9_startOfBestDays_77 : decode cX9_startOfBestDays 77 = .ok (.iinc 5 1, 3) := by decide +kernel
theorem dX9_startOfBestDays_80 : decode cX9_startOfBestDays 80 = .ok (.goto (-54), 3) := by decide +kernel
theorem dX9_startOfBestDays_83 : decode cX9_startOfBestDays 83 = .ok (.iload 4, 2) := by decide +kernel
theorem dX9_startOfBestDays_85 : decode cX9_startOfBestDays 85 = .ok (.ireturn, 1) := by decide +kernel
theorem dX9_positionOfBestEffort_0 : decode cX9_positionOfBestEffort 0 = .ok (.aload_n 0, 1) := by decide +kernel
theorem dX9_positionOfBestEffort_1 : decode cX9_positionOfBestEffort 1 = .ok (.iload_n 1, 1) := by decide +kernel
theorem dX9_positionOfBestEffort_2 : decode cX9_positionOfBestEffort 2 = .ok (.invokevirtual 275, 3) := by decide +kernel
theorem dX9_positionOfBestEffort_5 : decode cX9_positionOfBestEffort 5 = .ok (.iconst (-1), 1) := by decide +kernel
theorem dX9_positionOfBestEffort_6 : decode cX9_positionOfBestEffort 6 = .ok (.istore_n 2, 1) := by decide +kernel
theorem dX9_positionOfBestEffort_7 : decode cX9_positionOfBestEffort 7 = .ok (.iconst 0, 1) := by decide +kernel
theorem dX9_positionOfBestEffort_8 : decode cX9_positionOfBestEffort 8 = .ok (.istore_n 3, 1) := by decide +kernel
theorem dX9_positionOfBestEffort_9 : decode cX9_positionOfBestEffort 9 = .ok (.iconst 0, 1) := by decide +kernel
theorem dX9_positionOfBestEffort_10 : decode cX9_positionOfBestEffort 10 = .ok (.istore 4, 2) := by decide +kernel
theorem dX9_positionOfBestEffort_12 : decode cX9_positionOfBestEffort 12 = .ok (.iload 4, 2) := by decide +kernel
theorem dX9_positionOfBestEffort_14 : decode cX9_positionOfBestEffort 14 = .ok (.aload_n 0, 1) := by decide +kernel
theorem dX9_positionOfBestEffort_15 : decode cX9_positionOfBestEffort 15 = .ok (.getfield 12, 3) := by decide +kernel
theorem dX9_positionOfBestEffort_18 : decode cX9_positionOfBestEffort 18 = .ok (.getfield 156, 3) := by decide +kernel
theorem dX9_positionOfBestEffort_21 : decode cX9_positionOfBestEffort 21 = .ok (.getfield 160, 3) := by decide +kernel
theorem dX9_positionOfBestEffort_24 : decode cX9_positionOfBestEffort 24 = .ok (.if_icmp .ge 41, 3) := by decide +kernel
theorem dX9_positionOfBestEffort_27 : decode cX9_positionOfBestEffort 27 = .ok (.aload_n 0, 1) := by decide +kernel
theorem dX9_positionOfBestEffort_28 : decode cX9_positionOfBestEffort 28 = .ok (.aload_n 0, 1) := by decide +kernel
theorem dX9_positionOfBestEffort_29 : decode cX9_positionOfBestEffort 29 = .ok (.getfield 12, 3) := by decide +kernel
theorem dX9_positionOfBestEffort_32 : decode cX9_positionOfBestEffort 32 = .ok (.getfield 156, 3) := by decide +kernel
theorem dX9_positionOfBestEffort_35 : decode cX9_positionOfBestEffort 35 = .ok (.getfield 205, 3) := by decide +kernel
theorem dX9_positionOfBestEffort_38 : decode cX9_positionOfBestEffort 38 = .ok (.iload 4, 2) := by decide +kernel
theorem dX9_positionOfBestEffort_40 : decode cX9_positionOfBestEffort 40 = .ok (.aaload, 1) := by decide +kernel
theorem dX9_positionOfBestEffort_41 : decode cX9_positionOfBestEffort 41 = .ok (.iload_n 1, 1) := by decide +kernel
theorem dX9_positionOfBestEffort_42 : decode cX9_positionOfBestEffort 42 = .ok (.invokevirtual 271, 3) := by decide +kernel
theorem dX9_positionOfBestEffort_45 : decode cX9_positionOfBestEffort 45 = .ok (.istore 5, 2) := by decide +kernel
theorem dX9_positionOfBestEffort_47 : decode cX9_positionOfBestEffort 47 = .ok (.iload 5, 2) := by decide +kernel
theorem dX9_positionOfBestEffort_49 : decode cX9_positionOfBestEffort 49 = .ok (.iload_n 2, 1) := by decide +kernel
theorem dX9_positionOfBestEffort_50 : decode cX9_positionOfBestEffort 50 = .ok (.if_icmp .le 9, 3) := by decide +kernel
theorem dX9_positionOfBestEffort_53 : decode cX9_positionOfBestEffort 53 = .ok (.iload 5, 2) := by decide +kernel
theorem dX9_positionOfBestEffort_55 : decode cX9_positionOfBestEffort 55 = .ok (.istore_n 2, 1) := by decide +kernel
theorem dX9_positionOfBestEffort_56 : decode cX9_positionOfBestEffort 56 = .ok (.iload 4, 2) := by decide +kernel
theorem dX9_positionOfBestEffort_58 : decode cX9_positionOfBestEffort 58 = .ok (.istore_n 3, 1) := by decide +kernel
theorem dX9_positionOfBestEffort_59 : decode cX9_positionOfBestEffort 59 = .ok (.iinc 4 1, 3) := by decide +kernel
theorem dX9_positionOfBestEffort_62 : decode cX9_positionOfBestEffort 62 = .ok (.goto (-50), 3) := by decide +kernel
theorem dX9_positionOfBestEffort_65 : decode cX9_positionOfBestEffort 65 = .ok (.iload_n 3, 1) := by decide +kernel
theorem dX9_positionOfBestEffort_66 : decode cX9_positionOfBestEffort 66 = .ok (.ireturn, 1) := by decide +kernel
theorem dX9_effortBySums_0 : decode cX9_effortBySums 0 = .ok (.aload_n 1, 1) := by decide +kernel
theorem dX9_effortBySums_1 : decode cX9_effortBySums 1 = .ok (.aload_n 0, 1) := by decide +kernel
theorem dX9_effortBySums_2 : decode cX9_effortBySums 2 = .ok (.getfield 62, 3) := by decide +kernel
theorem dX9_effortBySums_5 : decode cX9_effortBySums 5 = .ok (.invokevirtual 364, 3) := by decide +kernel
theorem dX9_effortBySums_8 : decode cX9_effortBySums 8 = .ok (.istore_n 3, 1) := by decide +kernel
theorem dX9_effortBySums_9 : decode cX9_effortBySums 9 = .ok (.iconst 0, 1) := by decide +kernel
theorem dX9_effortBySums_10 : decode cX9_effortBySums 10 = .ok (.istore 4, 2) := by decide +kernel
theorem dX9_effortBySums_12 : decode cX9_effortBySums 12 = .ok (.iconst 0, 1) := by decide +kernel
theorem dX9_effortBySums_13 : decode cX9_effortBySums 13 = .ok (.istore 5, 2) := by decide +kernel
theorem dX9_effortBySums_15 : decode cX9_effortBySums 15 = .ok (.iload 5, 2) := by decide +kernel
theorem dX9_effortBySums_17 : decode cX9_effortBySums 17 = .ok (.iload_n 3, 1) := by decide +kernel
theorem dX9_effortBySums_18 : decode cX9_effortBySums 18 = .ok (.if_icmp .gt 34, 3) := by decide +kernel
theorem dX9_effortBySums_21 : decode cX9_effortBySums 21 = .ok (.aload_n 0, 1) := by decide +kernel
theorem dX9_effortBySums_22 : decode cX9_effortBySums 22 = .ok (.getfield 62, 3) := by decide +kernel
theorem dX9_effortBySums_25 : decode cX9_effortBySums 25 = .ok (.iload 5, 2) := by decide +kernel
theorem dX9_effortBySums_27 : decode cX9_effortBySums 27 = .ok (.iaload, 1) := by decide +kernel
theorem dX9_effortBySums_28 : decode cX9_effortBySums 28 = .ok (.istore 6, 2) := by decide +kernel
theorem dX9_effortBySums_30 : decode cX9_effortBySums 30 = .ok (.aload_n 0, 1) := by decide +kernel
theorem dX9_effortBySums_31 : decode cX9_effortBySums 31 = .ok (.getfield 62, 3) := by decide +kernel
theorem dX9_effortBySums_34 : decode cX9_effortBySums 34 = .ok (.iload 5, 2) := by decide +kernel
theorem dX9_effortBySums_36 : decode cX9_effortBySums 36 = .ok (.iload 4, 2) := by decide +kernel
theorem dX9_effortBySums_38 : decode cX9_effortBySums 38 = .ok (.iastore, 1) := by decide +kernel
theorem dX9_effortBySums_39 : decode cX9_effortBySums 39 = .ok (.iload 4, 2) := by decide +kernel
theorem dX9_effortBySums_41 : decode cX9_effortBySums 41 = .ok (.iload 6, 2) := by decide +kernel
theorem dX9_effortBySums_43 : decode cX9_effortBySums 43 = .ok (.iadd, 1) := by decide +kernel
theorem dX9_effortBySums_44 : decode cX9_effortBySums 44 = .ok (.istore 4, 2) := by decide +kernel
theorem dX9_effortBySums_46 : decode cX9_effortBySums 46 = .ok (.iinc 5 1, 3) := by decide +kernel
theorem dX9_effortBySums_49 : decode cX9_effortBySums 49 = .ok (.goto (-34), 3) := by decide +kernel
theorem dX9_effortBySums_52 : decode cX9_effortBySums 52 = .ok (.iconst (-1), 1) := by decide +kernel
theorem dX9_effortBySums_53 : decode cX9_effortBySums 53 = .ok (.istore 5, 2) := by decide +kernel
theorem dX9_effortBySums_55 : decode cX9_effortBySums 55 = .ok (.iload_n 2, 1) := by decide +kernel
theorem dX9_effortBySums_56 : decode cX9_effortBySums 56 = .ok (.istore 6, 2) := by decide +kernel
theorem dX9_effortBySums_58 : decode cX9_effortBySums 58 = .ok (.iload 6, 2) := by decide +kernel
theorem dX9_effortBySums_60 : decode cX9_effortBySums 60 = .ok (.iload_n 3, 1) := by decide +kernel
theorem dX9_effortBySums_61 : decode cX9_effortBySums 61 = .ok (.if_icmp .gt 33, 3) := by decide +kernel
theorem dX9_effortBySums_64 : decode cX9_effortBySums 64 = .ok (.iload 5, 2) := by decide +kernel
theorem dX9_effortBySums_66 : decode cX9_effortBySums 66 = .ok (.aload_n 0, 1) := by decide +kernel
theorem dX9_effortBySums_67 : decode cX9_effortBySums 67 = .ok (.getfield 62, 3) := by decide +kernel
theorem dX9_effortBySums_70 : decode cX9_effortBySums 70 = .ok (.iload 6, 2) := by decide +kernel
theorem dX9_effortBySums_72 : decode cX9_effortBySums 72 = .ok (.iaload, 1) := by decide +kernel
theorem dX9_effortBySums_73 : decode cX9_effortBySums 73 = .ok (.aload_n 0, 1) := by decide +kernel
theorem dX9_effortBySums_74 : decode cX9_effortBySums 74 = .ok (.getfield 62, 3) := by decide +kernel
theorem dX9_effortBySums_77 : decode cX9_effortBySums 77 = .ok (.iload 6, 2) := by decide +kernel
theorem dX9_effortBySums_79 : decode cX9_effortBySums 79 = .ok (.iload_n 2, 1) := by decide +kernel
theorem dX9_effortBySums_80 : decode cX9_effortBySums 80 = .ok (.isub, 1) := by decide +kernel
theorem dX9_effortBySums_81 : decode cX9_effortBySums 81 = .ok (.iaload, 1) := by decide +kernel
theorem dX9_effortBySums_82 : decode cX9_effortBySums 82 = .ok (.isub, 1) := by decide +kernel
theorem dX9_effortBySums_83 : decode cX9_effortBySums 83 = .ok (.invokestatic 265, 3) := by decide +kernel
theorem dX9_effortBySums_86 : decode cX9_effortBySums 86 = .ok (.istore 5, 2) := by decide +kernel
theorem dX9_effortBySums_88 : decode cX9_effortBySums 88 = .ok (.iinc 6 1, 3) := by decide +kernel
theorem dX9_effortBySums_91 : decode cX9_effortBySums 91 = .ok (.goto (-33), 3) := by decide +kernel
theorem dX9_effortBySums_94 : decode cX9_effortBySums 94 = .ok (.iload 5, 2) := by decide +kernel
theorem dX9_effortBySums_96 : decode cX9_effortBySums 96 = .ok (.ireturn, 1) := by decide +kernel
theorem dX9_effortByTrying_0 : decode cX9_effortByTrying 0 = .ok (.aload_n 1, 1) := by decide +kernel
theorem dX9_effortByTrying_1 : decode cX9_effortByTrying 1 = .ok (.aload_n 0, 1) := by decide +kernel
theorem dX9_effortByTrying_2 : decode cX9_effortByTrying 2 = .ok (.getfield 62, 3) := by decide +kernel
theorem dX9_effortByTrying_5 : decode cX9_effortByTrying 5 = .ok (.invokevirtual 364, 3) := by decide +kernel
theorem dX9_effortByTrying_8 : decode cX9_effortByTrying 8 = .ok (.istore_n 3, 1) := by decide +kernel
theorem dX9_effortByTrying_9 : decode cX9_effortByTrying 9 = .ok (.iconst (-1), 1) := by decide +kernel
theorem dX9_effortByTrying_10 : decode cX9_effortByTrying 10 = .ok (.istore 4, 2) := by decide +kernel
theorem dX9_effortByTrying_12 : decode cX9_effortByTrying 12 = .ok (.iconst 0, 1) := by decide +kernel
theorem dX9_effortByTrying_13 : decode cX9_effortByTrying 13 = .ok (.istore 5, 2) := by decide +kernel
theorem dX9_effortByTrying_15 : decode cX9_effortByTrying 15 = .ok (.iload 5, 2) := by decide +kernel
theorem dX9_effortByTrying_17 : decode cX9_effortByTrying 17 = .ok (.iload_n 2, 1) := by decide +kernel
theorem dX9_effortByTrying_18 : decode cX9_effortByTrying 18 = .ok (.iadd, 1) := by decide +kernel
theorem dX9_effortByTrying_19 : decode cX9_effortByTrying 19 = .ok (.iload_n 3, 1) := by decide +kernel
theorem dX9_effortByTrying_20 : decode cX9_effortByTrying 20 = .ok (.if_icmp .gt 52, 3) := by decide +kernel
theorem dX9_effortByTrying_23 : decode cX9_effortByTrying 23 = .ok (.iconst 0, 1) := by decide +kernel
theorem dX9_effortByTrying_24 : decode cX9_effortByTrying 24 = .ok (.istore 6, 2) := by decide +kernel
theorem dX9_effortByTrying_26 : decode cX9_effortByTrying 26 = .ok (.iload 5, 2) := by decide +kernel
theorem dX9_effortByTrying_28 : decode cX9_effortByTrying 28 = .ok (.istore 7, 2) := by decide +kernel
theorem dX9_effortByTrying_30 : decode cX9_effortByTrying 30 = .ok (.iload 7, 2) := by decide +kernel
theorem dX9_effortByTrying_32 : decode cX9_effortByTrying 32 = .ok (.iload 5, 2) := by decide +kernel
theorem dX9_effortByTrying_34 : decode cX9_effortByTrying 34 = .ok (.iload_n 2, 1) := by decide +kernel
theorem dX9_effortByTrying_35 : decode cX9_effortByTrying 35 = .ok (.iadd, 1) := by decide +kernel
theorem dX9_effortByTrying_36 : decode cX9_effortByTrying 36 = .ok (.if_icmp .ge 21, 3) := by decide +kernel
theorem dX9_effortByTrying_39 : decode cX9_effortByTrying 39 = .ok (.iload 6, 2) := by decide +kernel
theorem dX9_effortByTrying_41 : decode cX9_effortByTrying 41 = .ok (.aload_n 0, 1) := by decide +kernel
theorem dX9_effortByTrying_42 : decode cX9_effortByTrying 42 = .ok (.getfield 62, 3) := by decide +kernel
theorem dX9_effortByTrying_45 : decode cX9_effortByTrying 45 = .ok (.iload 7, 2) := by decide +kernel
theorem dX9_effortByTrying_47 : decode cX9_effortByTrying 47 = .ok (.iaload, 1) := by decide +kernel
theorem dX9_effortByTrying_48 : decode cX9_effortByTrying 48 = .ok (.iadd, 1) := by decide +kernel
theorem dX9_effortByTrying_49 : decode cX9_effortByTrying 49 = .ok (.istore 6, 2) := by decide +kernel
theorem dX9_effortByTrying_51 : decode cX9_effortByTrying 51 = .ok (.iinc 7 1, 3) := by decide +kernel
theorem dX9_effortByTrying_54 : decode cX9_effortByTrying 54 = .ok (.goto (-24), 3) := by decide +kernel
theorem dX9_effortByTrying_57 : decode cX9_effortByTrying 57 = .ok (.iload 4, 2) := by decide +kernel
theorem dX9_effortByTrying_59 : decode cX9_effortByTrying 59 = .ok (.iload 6, 2) := by decide +kernel
theorem dX9_effortByTrying_61 : decode cX9_effortByTrying 61 = .ok (.invokestatic 265, 3) := by decide +kernel
theorem dX9_effortByTrying_64 : decode cX9_effortByTrying 64 = .ok (.istore 4, 2) := by decide +kernel
theorem dX9_effortByTrying_66 : decode cX9_effortByTrying 66 = .ok (.iinc 5 1, 3) := by decide +kernel
theorem dX9_effortByTrying_69 : decode cX9_effortByTrying 69 = .ok (.goto (-54), 3) := by decide +kernel
theorem dX9_effortByTrying_72 : decode cX9_effortByTrying 72 = .ok (.iload 4, 2) := by decide +kernel
theorem dX9_effortByTrying_74 : decode cX9_effortByTrying 74 = .ok (.ireturn, 1) := by decide +kernel
theorem dX9_followPlan_0 : decode cX9_followPlan 0 = .ok (.aload_n 0, 1) := by decide +kernel
theorem dX9_followPlan_1 : decode cX9_followPlan 1 = .ok (.getfield 12, 3) := by decide +kernel
theorem dX9_followPlan_4 : decode cX9_followPlan 4 = .ok (.aload_n 0, 1) := by decide +kernel
theorem dX9_followPlan_5 : decode cX9_followPlan 5 = .ok (.getfield 52, 3) := by decide +kernel
theorem dX9_followPlan_8 : decode cX9_followPlan 8 = .ok (.invokevirtual 223, 3) := by decide +kernel
theorem dX9_followPlan_11 : decode cX9_followPlan 11 = .ok (.aload_n 0, 1) := by decide +kernel
theorem dX9_followPlan_12 : decode cX9_followPlan 12 = .ok (.getfield 48, 3) := by decide +kernel
theorem dX9_followPlan_15 : decode cX9_followPlan 15 = .ok (.aload_n 0, 1) := by decide +kernel
theorem dX9_followPlan_16 : decode cX9_followPlan 16 = .ok (.getfield 12, 3) := by decide +kernel
theorem dX9_followPlan_19 : decode cX9_followPlan 19 = .ok (.getfield 281, 3) := by decide +kernel
theorem dX9_followPlan_22 : decode cX9_followPlan 22 = .ok (.aload_n 0, 1) := by decide +kernel
theorem dX9_followPlan_23 : decode cX9_followPlan 23 = .ok (.getfield 12, 3) := by decide +kernel
theorem dX9_followPlan_26 : decode cX9_followPlan 26 = .ok (.getfield 69, 3) := by decide +kernel
theorem dX9_followPlan_29 : decode cX9_followPlan 29 = .ok (.aload_n 0, 1) := by decide +kernel
theorem dX9_followPlan_30 : decode cX9_followPlan 30 = .ok (.getfield 52, 3) := by decide +kernel
theorem dX9_followPlan_33 : decode cX9_followPlan 33 = .ok (.invokevirtual 367, 3) := by decide +kernel
theorem dX9_followPlan_36 : decode cX9_followPlan 36 = .ok (.return_, 1) := by decide +kernel
theorem dX9_existingDueEntry_0 : decode cX9_existingDueEntry 0 = .ok (.aload_n 0, 1) := by decide +kernel
theorem dX9_existingDueEntry_1 : decode cX9_existingDueEntry 1 = .ok (.invokevirtual 311, 3) := by decide +kernel
theorem dX9_existingDueEntry_4 : decode cX9_existingDueEntry 4 = .ok (.aload_n 0, 1) := by decide +kernel
theorem dX9_existingDueEntry_5 : decode cX9_existingDueEntry 5 = .ok (.getfield 48, 3) := by decide +kernel
theorem dX9_existingDueEntry_8 : decode cX9_existingDueEntry 8 = .ok (.getfield 320, 3) := by decide +kernel
theorem dX9_existingDueEntry_11 : decode cX9_existingDueEntry 11 = .ok (.aload_n 0, 1) := by decide +kernel
theorem dX9_existingDueEntry_12 : decode cX9_existingDueEntry 12 = .ok (.getfield 12, 3) := by decide +kernel
theorem dX9_existingDueEntry_15 : decode cX9_existingDueEntry 15 = .ok (.getfield 281, 3) := by decide +kernel
theorem dX9_existingDueEntry_18 : decode cX9_existingDueEntry 18 = .ok (.getfield 285, 3) := by decide +kernel
theorem dX9_existingDueEntry_21 : decode cX9_existingDueEntry 21 = .ok (.if_icmp .lt 14, 3) := by decide +kernel
theorem dX9_existingDueEntry_24 : decode cX9_existingDueEntry 24 = .ok (.new 117, 3) := by decide +kernel
theorem dX9_existingDueEntry_27 : decode cX9_existingDueEntry 27 = .ok (.dup, 1) := by decide +kernel
theorem dX9_existingDueEntry_28 : decode cX9_existingDueEntry 28 = .ok (.ldc_w 371, 3) := by decide +kernel
theorem dX9_existingDueEntry_31 : decode cX9_existingDueEntry 31 = .ok (.invokespecial 121, 3) := by decide +kernel
theorem dX9_existingDueEntry_34 : decode cX9_existingDueEntry 34 = .ok (.athrow, 1) := by decide +kernel
theorem dX9_existingDueEntry_35 : decode cX9_existingDueEntry 35 = .ok (.aload_n 0, 1) := by decide +kernel
theorem dX9_existingDueEntry_36 : decode cX9_existingDueEntry 36 = .ok (.getfield 48, 3) := by decide +kernel
theorem dX9_existingDueEntry_39 : decode cX9_existingDueEntry 39 = .ok (.getfield 320, 3) := by decide +kernel
theorem dX9_existingDueEntry_42 : decode cX9_existingDueEntry 42 = .ok (.ireturn, 1) := by decide +kernel
theorem dX9_signOfDay_0 : decode cX9_signOfDay 0 = .ok (.iload_n 1, 1) := by decide +kernel
theorem dX9_signOfDay_1 : decode cX9_signOfDay 1 = .ok (.aload_n 0, 1) := by decide +kernel
theorem dX9_signOfDay_2 : decode cX9_signOfDay 2 = .ok (.getfield 12, 3) := by decide +kernel
theorem dX9_signOfDay_5 : decode cX9_signOfDay 5 = .ok (.getfield 69, 3) := by decide +kernel
theorem dX9_signOfDay_8 : decode cX9_signOfDay 8 = .ok (.if_icmp .le 6, 3) := by decide +kernel
theorem dX9_signOfDay_11 : decode cX9_signOfDay 11 = .ok (.bipush 45, 2) := by decide +kernel
theorem dX9_signOfDay_13 : decode cX9_signOfDay 13 = .ok (.ireturn, 1) := by decide +kernel
theorem dX9_signOfDay_14 : decode cX9_signOfDay 14 = .ok (.aload_n 0, 1) := by decide +kernel
theorem dX9_signOfDay_15 : decode cX9_signOfDay 15 = .ok (.getfield 12, 3) := by decide +kernel
theorem dX9_signOfDay_18 : decode cX9_signOfDay 18 = .ok (.getfield 156, 3) := by decide +kernel
theorem dX9_signOfDay_21 : decode cX9_signOfDay 21 = .ok (.iload_n 1, 1) := by decide +kernel
theorem dX9_signOfDay_22 : decode cX9_signOfDay 22 = .ok (.invokevirtual 373, 3) := by decide +kernel
theorem dX9_signOfDay_25 : decode cX9_signOfDay 25 = .ok (.ifCond .ne 6, 3) := by decide +kernel
theorem dX9_signOfDay_28 : decode cX9_signOfDay 28 = .ok (.bipush 46, 2) := by decide +kernel
theorem dX9_signOfDay_30 : decode cX9_signOfDay 30 = .ok (.ireturn, 1) := by decide +kernel
theorem dX9_signOfDay_31 : decode cX9_signOfDay 31 = .ok (.aload_n 0, 1) := by decide +kernel
theorem dX9_signOfDay_32 : decode cX9_signOfDay 32 = .ok (.getfield 59, 3) := by decide +kernel
theorem dX9_signOfDay_35 : decode cX9_signOfDay 35 = .ok (.invokestatic 212, 3) := by decide +kernel
theorem dX9_signOfDay_38 : decode cX9_signOfDay 38 = .ok (.iconst 0, 1) := by decide +kernel
theorem dX9_signOfDay_39 : decode cX9_signOfDay 39 = .ok (.istore_n 2, 1) := by decide +kernel
theorem dX9_signOfDay_40 : decode cX9_signOfDay 40 = .ok (.iload_n 2, 1) := by decide +kernel
theorem dX9_signOfDay_41 : decode cX9_signOfDay 41 = .ok (.aload_n 0, 1) := by decide +kernel
theorem dX9_signOfDay_42 : decode cX9_signOfDay 42 = .ok (.getfield 12, 3) := by decide +kernel
theorem dX9_signOfDay_45 : decode cX9_signOfDay 45 = .ok (.getfield 156, 3) := by decide +kernel
theorem dX9_signOfDay_48 : decode cX9_signOfDay 48 = .ok (.getfield 160, 3) := by decide +kernel
theorem dX9_signOfDay_51 : decode cX9_signOfDay 51 = .ok (.if_icmp .ge 42, 3) := by decide +kernel
theorem dX9_signOfDay_54 : decode cX9_signOfDay 54 = .ok (.aload_n 0, 1) := by decide +kernel
theorem dX9_signOfDay_55 : decode cX9_signOfDay 55 = .ok (.getfield 12, 3) := by decide +kernel
theorem dX9_signOfDay_58 : decode cX9_signOfDay 58 = .ok (.getfield 156, 3) := by decide +kernel
theorem dX9_signOfDay_61 : decode cX9_signOfDay 61 = .ok (.getfield 205, 3) := by decide +kernel
theorem dX9_signOfDay_64 : decode cX9_signOfDay 64 = .ok (.iload_n 2, 1) := by decide +kernel
theorem dX9_signOfDay_65 : decode cX9_signOfDay 65 = .ok (.aaload, 1) := by decide +kernel
theorem dX9_signOfDay_66 : decode cX9_signOfDay 66 = .ok (.astore_n 3, 1) := by decide +kernel
theorem dX9_signOfDay_67 : decode cX9_signOfDay 67 = .ok (.aload_n 3, 1) := by decide +kernel
theorem dX9_signOfDay_68 : decode cX9_signOfDay 68 = .ok (.getfield 184, 3) := by decide +kernel
theorem dX9_signOfDay_71 : decode cX9_signOfDay 71 = .ok (.iload_n 1, 1) := by decide +kernel
theorem dX9_signOfDay_72 : decode cX9_signOfDay 72 = .ok (.if_icmp .ne 15, 3) := by decide +kernel
theorem dX9_signOfDay_75 : decode cX9_signOfDay 75 = .ok (.aload_n 0, 1) := by decide +kernel
theorem dX9_signOfDay_76 : decode cX9_signOfDay 76 = .ok (.getfield 12, 3) := by decide +kernel
theorem dX9_signOfDay_79 : decode cX9_signOfDay 79 = .ok (.aload_n 3, 1) := by decide +kernel
theorem dX9_signOfDay_80 : decode cX9_signOfDay 80 = .ok (.aload_n 0, 1) := by decide +kernel
theorem dX9_signOfDay_81 : decode cX9_signOfDay 81 = .ok (.getfield 59, 3) := by decide +kernel
theorem dX9_signOfDay_84 : decode cX9_signOfDay 84 = .ok (.invokevirtual 215, 3) := by decide +kernel
theorem dX9_signOfDay_87 : decode cX9_signOfDay 87 = .ok (.iinc 2 1, 3) := by decide +kernel
theorem dX9_signOfDay_90 : decode cX9_signOfDay 90 = .ok (.goto (-50), 3) := by decide +kernel
theorem dX9_signOfDay_93 : decode cX9_signOfDay 93 = .ok (.iconst 0, 1) := by decide +kernel
theorem dX9_signOfDay_94 : decode cX9_signOfDay 94 = .ok (.istore_n 2, 1) := by decide +kernel
theorem dX9_signOfDay_95 : decode cX9_signOfDay 95 = .ok (.iconst 1, 1) := by decide +kernel
theorem dX9_signOfDay_96 : decode cX9_signOfDay 96 = .ok (.istore_n 3, 1) := by decide +kernel
theorem dX9_signOfDay_97 : decode cX9_signOfDay 97 = .ok (.iload_n 3, 1) := by decide +kernel
theorem dX9_signOfDay_98 : decode cX9_signOfDay 98 = .ok (.iconst 5, 1) := by decide +kernel
theorem dX9_signOfDay_99 : decode cX9_signOfDay 99 = .ok (.if_icmp .gt 26, 3) := by decide +kernel
theorem dX9_signOfDay_102 : decode cX9_signOfDay 102 = .ok (.aload_n 0, 1) := by decide +kernel
theorem dX9_signOfDay_103 : decode cX9_signOfDay 103 = .ok (.getfield 59, 3) := by decide +kernel
theorem dX9_signOfDay_106 : decode cX9_signOfDay 106 = .ok (.iload_n 3, 1) := by decide +kernel
theorem dX9_signOfDay_107 : decode cX9_signOfDay 107 = .ok (.iaload, 1) := by decide +kernel
theorem dX9_signOfDay_108 : decode cX9_signOfDay 108 = .ok (.aload_n 0, 1) := by decide +kernel
theorem dX9_signOfDay_109 : decode cX9_signOfDay 109 = .ok (.getfield 59, 3) := by decide +kernel
theorem dX9_signOfDay_112 : decode cX9_signOfDay 112 = .ok (.iload_n 2, 1) := by decide +kernel
theorem dX9_signOfDay_113 : decode cX9_signOfDay 113 = .ok (.iaload, 1) := by decide +kernel
theorem dX9_signOfDay_114 : decode cX9_signOfDay 114 = .ok (.if_icmp .le 5, 3) := by decide +kernel
theorem dX9_signOfDay_117 : decode cX9_signOfDay 117 = .ok (.iload_n 3, 1) := by decide +kernel
theorem dX9_signOfDay_118 : decode cX9_signOfDay 118 = .ok (.istore_n 2, 1) := by decide +kernel
theorem dX9_signOfDay_119 : decode cX9_signOfDay 119 = .ok (.iinc 3 1, 3) := by decide +kernel
theorem dX9_signOfDay_122 : decode cX9_signOfDay 122 = .ok (.goto (-25), 3) := by decide +kernel
theorem dX9_signOfDay_125 : decode cX9_signOfDay 125 = .ok (.bipush 48, 2) := by decide +kernel
theorem dX9_signOfDay_127 : decode cX9_signOfDay 127 = .ok (.iload_n 2, 1) := by decide +kernel
theorem dX9_signOfDay_128 : decode cX9_signOfDay 128 = .ok (.iadd, 1) := by decide +kernel
theorem dX9_signOfDay_129 : decode cX9_signOfDay 129 = .ok (.i2c, 1) := by decide +kernel
theorem dX9_signOfDay_130 : decode cX9_signOfDay 130 = .ok (.ireturn, 1) := by decide +kernel
theorem dX10_init_0 : decode cX10_init 0 = .ok (.aload_n 0, 1) := by decide +kernel
theorem dX10_init_1 : decode cX10_init 1 = .ok (.invokespecial 3, 3) := by decide +kernel
theorem dX10_init_4 : decode cX10_init 4 = .ok (.aload_n 0, 1) := by decide +kernel
theorem dX10_init_5 : decode cX10_init 5 = .ok (.sipush 830, 3) := by decide +kernel
theorem dX10_init_8 : decode cX10_init 8 = .ok (.newarray .int, 2) := by decide +kernel
theorem dX10_init_10 : decode cX10_init 10 = .ok (.putfield 9, 3) := by decide +kernel
theorem dX10_init_13 : decode cX10_init 13 = .ok (.aload_n 0, 1) := by decide +kernel
theorem dX10_init_14 : decode cX10_init 14 = .ok (.bipush 6, 2) := by decide +kernel
theorem dX10_init_16 : decode cX10_init 16 = .ok (.sipush 830, 3) := by decide +kernel
theorem dX10_init_19 : decode cX10_init 19 = .ok (.multianewarray 13 2, 4) := by decide +kernel
theorem dX10_init_23 : decode cX10_init 23 = .ok (.putfield 15, 3) := by decide +kernel
theorem dX10_init_26 : decode cX10_init 26 = .ok (.aload_n 0, 1) := by decide +kernel
theorem dX10_init_27 : decode cX10_init 27 = .ok (.sipush 830, 3) := by decide +kernel
theorem dX10_init_30 : decode cX10_init 30 = .ok (.newarray .int, 2) := by decide +kernel
theorem dX10_init_32 : decode cX10_init 32 = .ok (.putfield 18, 3) := by decide +kernel
theorem dX10_init_35 : decode cX10_init 35 = .ok (.aload_n 0, 1) := by decide +kernel
theorem dX10_init_36 : decode cX10_init 36 = .ok (.sipush 200, 3) := by decide +kernel
theorem dX10_init_39 : decode cX10_init 39 = .ok (.newarray .int, 2) := by decide +kernel
theorem dX10_init_41 : decode cX10_init 41 = .ok (.putfield 21, 3) := by decide +kernel
theorem dX10_init_44 : decode cX10_init 44 = .ok (.aload_n 0, 1) := by decide +kernel
theorem dX10_init_45 : decode cX10_init 45 = .ok (.bipush 6, 2) := by decide +kernel
theorem dX10_init_47 : decode cX10_init 47 = .ok (.newarray .int, 2) := by decide +kernel
theorem dX10_init_49 : decode cX10_init 49 = .ok (.putfield 24, 3) := by decide +kernel
theorem dX10_init_52 : decode cX10_init 52 = .ok (.aload_n 0, 1) := by decide +kernel
theorem dX10_init_53 : decode cX10_init 53 = .ok (.bipush 13, 2) := by decide +kernel
theorem dX10_init_55 : decode cX10_init 55 = .ok (.newarray .char, 2) := by decide +kernel
theorem dX10_init_57 : decode cX10_init 57 = .ok (.putfield 27, 3) := by decide +kernel
theorem dX10_init_60 : decode cX10_init 60 = .ok (.iconst 2, 1) := by decide +kernel
theorem dX10_init_61 : decode cX10_init 61 = .ok (.istore_n 1, 1) := by decide +kernel
theorem dX10_init_62 : decode cX10_init 62 = .ok (.iload_n 1, 1) := by decide +kernel
theorem dX10_init_63 : decode cX10_init 63 = .ok (.iconst 5, 1) := by decide +kernel
theorem dX10_init_64 : decode cX10_init 64 = .ok (.if_icmp .gt 25, 3) := by decide +kernel
theorem dX10_init_67 : decode cX10_init 67 = .ok (.aload_n 0, 1) := by decide +kernel
theorem dX10_init_68 : decode cX10_init 68 = .ok (.getfield 9, 3) := by decide +kernel
theorem dX10_init_71 : decode cX10_init 71 = .ok (.bipush 8, 2) := by decide +kernel
theorem dX10_init_73 : decode cX10_init 73 = .ok (.iload_n 1, 1) := by decide +kernel
theorem dX10_init_74 : decode cX10_init 74 = .ok (.iadd, 1) := by decide +kernel
theorem dX10_init_75 : decode cX10_init 75 = .ok (.bipush 60, 2) := by decide +kernel
theorem dX10_init_77 : decode cX10_init 77 = .ok (.bipush 10, 2) := by decide +kernel
theorem dX10_init_79 : decode cX10_init 79 = .ok (.iload_n 1, 1) := by decide +kernel
theorem dX10_init_80 : decode cX10_init 80 = .ok (.imul, 1) := by decide +kernel
theorem dX10_init_81 : decode cX10_init 81 = .ok (.iadd, 1) := by decide +kernel
theorem dX10_init_82 : decode cX10_init 82 = .ok (.iastore, 1) := by decide +kernel
theorem dX10_init_83 : decode cX10_init 83 = .ok (.iinc 1 1, 3) := by decide +kernel
theorem dX10_init_86 : decode cX10_init 86 = .ok (.goto (-24), 3) := by decide +kernel
theorem dX10_init_89 : decode cX10_init 89 = .ok (.aload_n 0, 1) := by decide +kernel
theorem dX10_init_90 : decode cX10_init 90 = .ok (.getfield 9, 3) := by decide +kernel
theorem dX10_init_93 : decode cX10_init 93 = .ok (.bipush 15, 2) := by decide +kernel
theorem dX10_init_95 : decode cX10_init 95 = .ok (.iconst 1, 1) := by decide +kernel
theorem dX10_init_96 : decode cX10_init 96 = .ok (.iastore, 1) := by decide +kernel
theorem dX10_init_97 : decode cX10_init 97 = .ok (.aload_n 0, 1) := by decide +kernel
theorem dX10_init_98 : decode cX10_init 98 = .ok (.getfield 9, 3) := by decide +kernel
theorem dX10_init_101 : decode cX10_init 101 = .ok (.bipush 16, 2) := by decide +kernel
theorem dX10_init_103 : decode cX10_init 103 = .ok (.iconst 2, 1) := by decide +kernel
theorem dX10_init_104 : decode cX10_init 104 = .ok (.iastore, 1) := by decide +kernel
theorem dX10_init_105 : decode cX10_init 105 = .ok (.aload_n 0, 1) := by decide +kernel
theorem dX10_init_106 : decode cX10_init 106 = .ok (.getfield 9, 3) := by decide +kernel
theorem dX10_init_109 : decode cX10_init 109 = .ok (.bipush 17, 2) := by decide +kernel
theorem dX10_init_111 : decode cX10_init 111 = .ok (.iconst 3, 1) := by decide +kernel
theorem dX10_init_112 : decode cX10_init 112 = .ok (.iastore, 1) := by decide +kernel
theorem dX10_init_113 : decode cX10_init 113 = .ok (.aload_n 0, 1) := by decide +kernel
theorem dX10_init_114 : decode cX10_init 114 = .ok (.getfield 9, 3) := by decide +kernel
theorem dX10_init_117 : decode cX10_init 117 = .ok (.bipush 18, 2) := by decide +kernel
theorem dX10_init_119 : decode cX10_init 119 = .ok (.iconst 5, 1) := by decide +kernel
theorem dX10_init_120 : decode cX10_init 120 = .ok (.iastore, 1) := by decide +kernel
theorem dX10_init_121 : decode cX10_init 121 = .ok (.aload_n 0, 1) := by decide +kernel
theorem dX10_init_122 : decode cX10_init 122 = .ok (.getfield 9, 3) := by decide +kernel
theorem dX10_init_125 : decode cX10_init 125 = .ok (.bipush 19, 2) := by decide +kernel
theorem dX10_init_127 : decode cX10_init 127 = .ok (.bipush 8, 2) := by decide +kernel
theorem dX10_init_129 : decode cX10_init 129 = .ok (.iastore, 1) := by decide +kernel
theorem dX10_init_130 : decode cX10_init 130 = .ok (.return_, 1) := by decide +kernel
theorem dX10_thrown_0 : decode cX10_thrown 0 = .ok (.aload_n 0, 1) := by decide +kernel
theorem dX10_thrown_1 : decode cX10_thrown 1 = .ok (.getfield 31, 3) := by decide +kernel
theorem dX10_thrown_4 : decode cX10_thrown 4 = .ok (.ireturn, 1) := by decide +kernel
theorem dX10_isIn_0 : decode cX10_isIn 0 = .ok (.iload_n 0, 1) := by decide +kernel
theorem dX10_isIn_1 : decode cX10_isIn 1 = .ok (.iload_n 1, 1) := by decide +kernel
theorem dX10_isIn_2 : decode cX10_isIn 2 = .ok (.if_icmp .lt 12, 3) := by decide +kernel
theorem dX10_isIn_5 : decode cX10_isIn 5 = .ok (.iload_n 0, 1) := by decide +kernel
theorem dX10_isIn_6 : decode cX10_isIn 6 = .ok (.iload_n 2, 1) := by decide +kernel
theorem dX10_isIn_7 : decode cX10_isIn 7 = .ok (.if_icmp .gt 7, 3) := by decide +kernel
theorem dX10_isIn_10 : decode cX10_isIn 10 = .ok (.iconst 1, 1) := by decide +kernel
theorem dX10_isIn_11 : decode cX10_isIn 11 = .ok (.goto 4, 3) := by decide +kernel
theorem dX10_isIn_14 : decode cX10_isIn 14 = .ok (.iconst 0, 1) := by decide +kernel
theorem dX10_isIn_15 : decode cX10_isIn 15 = .ok (.ireturn, 1) := by decide +kernel
theorem dX10_isThrown_0 : decode cX10_isThrown 0 = .ok (.aload_n 0, 1) := by decide +kernel
theorem dX10_isThrown_1 : decode cX10_isThrown 1 = .ok (.iload_n 1, 1) := by decide +kernel
theorem dX10_isThrown_2 : decode cX10_isThrown 2 = .ok (.ifCond .eq 7, 3) := by decide +kernel
theorem dX10_isThrown_5 : decode cX10_isThrown 5 = .ok (.iload_n 2, 1) := by decide +kernel
theorem dX10_isThrown_6 : decode cX10_isThrown 6 = .ok (.goto 4, 3) := by decide +kernel
theorem dX10_isThrown_9 : decode cX10_isThrown 9 = .ok (.iconst 0, 1) := by decide +kernel
theorem dX10_isThrown_10 : decode cX10_isThrown 10 = .ok (.putfield 31, 3) := by decide +kernel
theorem dX10_isThrown_13 : decode cX10_isThrown 13 = .ok (.iload_n 1, 1) := by decide +kernel
theorem dX10_isThrown_14 : decode cX10_isThrown 14 = .ok (.ireturn, 1) := by decide +kernel
theorem dX10_keeps_0 : decode cX10_keeps 0 = .ok (.aload_n 0, 1) := by decide +kernel
theorem dX10_keeps_1 : decode cX10_keeps 1 = .ok (.aload_n 0, 1) := by decide +kernel
theorem dX10_keeps_2 : decode cX10_keeps 2 = .ok (.getfield 35, 3) := by decide +kernel
theorem dX10_keeps_5 : decode cX10_keeps 5 = .ok (.iconst 1, 1) := by decide +kernel
theorem dX10_keeps_6 : decode cX10_keeps 6 = .ok (.iadd, 1) := by decide +kernel
theorem dX10_keeps_7 : decode cX10_keeps 7 = .ok (.bipush 6, 2) := by decide +kernel
theorem dX10_keeps_9 : decode cX10_keeps 9 = .ok (.irem, 1) := by decide +kernel
theorem dX10_keeps_10 : decode cX10_keeps 10 = .ok (.putfield 35, 3) := by decide +kernel
theorem dX10_keeps_13 : decode cX10_keeps 13 = .ok (.iconst 0, 1) := by decide +kernel
theorem dX10_keeps_14 : decode cX10_keeps 14 = .ok (.istore_n 1, 1) := by decide +kernel
theorem dX10_keeps_15 : decode cX10_keeps 15 = .ok (.iload_n 1, 1) := by decide +kernel
theorem dX10_keeps_16 : decode cX10_keeps 16 = .ok (.sipush 830, 3) := by decide +kernel
theorem dX10_keeps_19 : decode cX10_keeps 19 = .ok (.if_icmp .ge 26, 3) := by decide +kernel
theorem dX10_keeps_22 : decode cX10_keeps 22 = .ok (.aload_n 0, 1) := by decide +kernel
theorem dX10_keeps_23 : decode cX10_keeps 23 = .ok (.getfield 15, 3) := by decide +kernel
theorem dX10_keeps_26 : decode cX10_keeps 26 = .ok (.aload_n 0, 1) := by decide +kernel
theorem dX10_keeps_27 : decode cX10_keeps 27 = .ok (.getfield 35, 3) := by decide +kernel
theorem dX10_keeps_30 : decode cX10_keeps 30 = .ok (.aaload, 1) := by decide +kernel
theorem dX10_keeps_31 : decode cX10_keeps 31 = .ok (.iload_n 1, 1) := by decide +kernel
theorem dX10_keeps_32 : decode cX10_keeps 32 = .ok (.aload_n 0, 1) := by decide +kernel
theorem dX10_keeps_33 : decode cX10_keeps 33 = .ok (.getfield 9, 3) := by decide +kernel
theorem dX10_keeps_36 : decode cX10_keeps 36 = .ok (.iload_n 1, 1) := by decide +kernel
theorem dX10_keeps_37 : decode cX10_keeps 37 = .ok (.iaload, 1) := by decide +kernel
theorem dX10_keeps_38 : decode cX10_keeps 38 = .ok (.iastore, 1) := by decide +kernel
theorem dX10_keeps_39 : decode cX10_keeps 39 = .ok (.iinc 1 1, 3) := by decide +kernel
theorem dX10_keeps_42 : decode cX10_keeps 42 = .ok (.goto (-27), 3) := by decide +kernel
theorem dX10_keeps_45 : decode cX10_keeps 45 = .ok (.aload_n 0, 1) := by decide +kernel
theorem dX10_keeps_46 : decode cX10_keeps 46 = .ok (.bipush 6, 2) := by decide +kernel
theorem dX10_keeps_48 : decode cX10_keeps 48 = .ok (.aload_n 0, 1) := by decide +kernel
theorem dX10_keeps_49 : decode cX10_keeps 49 = .ok (.getfield 38, 3) := by decide +kernel
theorem dX10_keeps_52 : decode cX10_keeps 52 = .ok (.iconst 1, 1) := by decide +kernel
theorem dX10_keeps_53 : decode cX10_keeps 53 = .ok (.iadd, 1) := by decide +kernel
theorem dX10_keeps_54 : decode cX10_keeps 54 = .ok (.invokestatic 41, 3) := by decide +kernel
theorem dX10_keeps_57 : decode cX10_keeps 57 = .ok (.putfield 38, 3) := by decide +kernel
theorem dX10_keeps_60 : decode cX10_keeps 60 = .ok (.return_, 1) := by decide +kernel
theorem dX10_isNoDay_0 : decode cX10_isNoDay 0 = .ok (.iload_n 1, 1) := by decide +kernel
theorem dX10_isNoDay_1 : decode cX10_isNoDay 1 = .ok (.iconst 0, 1) := by decide +kernel
theorem dX10_isNoDay_2 : decode cX10_isNoDay 2 = .ok (.aload_n 0, 1) := by decide +kernel
theorem dX10_isNoDay_3 : decode cX10_isNoDay 3 = .ok (.getfield 9, 3) := by decide +kernel
theorem dX10_isNoDay_6 : decode cX10_isNoDay 6 = .ok (.iconst 0, 1) := by decide +kernel
theorem dX10_isNoDay_7 : decode cX10_isNoDay 7 = .ok (.iaload, 1) := by decide +kernel
theorem dX10_isNoDay_8 : decode cX10_isNoDay 8 = .ok (.invokestatic 47, 3) := by decide +kernel
theorem dX10_isNoDay_11 : decode cX10_isNoDay 11 = .ok (.ifCond .ne 7, 3) := by decide +kernel
theorem dX10_isNoDay_14 : decode cX10_isNoDay 14 = .ok (.iconst 1, 1) := by decide +kernel
theorem dX10_isNoDay_15 : decode cX10_isNoDay 15 = .ok (.goto 4, 3) := by decide +kernel
theorem dX10_isNoDay_18 : decode cX10_isNoDay 18 = .ok (.iconst 0, 1) := by decide +kernel
theorem dX10_isNoDay_19 : decode cX10_isNoDay 19 = .ok (.ireturn, 1) := by decide +kernel
theorem dX10_pass_0 : decode cX10_pass 0 = .ok (.aload_n 0, 1) := by decide +kernel
theorem dX10_pass_1 : decode cX10_pass 1 = .ok (.iload_n 1, 1) := by decide +kernel
theorem dX10_pass_2 : decode cX10_pass 2 = .ok (.iconst 1, 1) := by decide +kernel
theorem dX10_pass_3 : decode cX10_pass 3 = .ok (.bipush 30, 2) := by decide +kernel
theorem dX10_pass_5 : decode cX10_pass 5 = .ok (.invokestatic 47, 3) := by decide +kernel
theorem dX10_pass_8 : decode cX10_pass 8 = .ok (.ifCond .ne 7, 3) := by decide +kernel
theorem dX10_pass_11 : decode cX10_pass 11 = .ok (.iconst 1, 1) := by decide +kernel
theorem dX10_pass_12 : decode cX10_pass 12 = .ok (.goto 4, 3) := by decide +kernel
theorem dX10_pass_15 : decode cX10_pass 15 = .ok (.iconst 0, 1) := by decide +kernel
theorem dX10_pass_16 : decode cX10_pass 16 = .ok (.iconst 1, 1) := by decide +kernel
theorem dX10_pass_17 : decode cX10_pass 17 = .ok (.invokevirtual 51, 3) := by decide +kernel
theorem dX10_pass_20 : decode cX10_pass 20 = .ok (.ifCond .ne 30, 3) := by decide +kernel
theorem dX10_pass_23 : decode cX10_pass 23 = .ok (.aload_n 0, 1) := by decide +kernel
theorem dX10_pass_24 : decode cX10_pass 24 = .ok (.aload_n 0, 1) := by decide +kernel
theorem dX10_pass_25 : decode cX10_pass 25 = .ok (.getfield 9, 3) := by decide +kernel
theorem dX10_pass_28 : decode cX10_pass 28 = .ok (.iconst 0, 1) := by decide +kernel
theorem dX10_pass_29 : decode cX10_pass 29 = .ok (.iaload, 1) := by decide +kernel
theorem dX10_pass_30 : decode cX10_pass 30 = .ok (.iload_n 1, 1) := by decide +kernel
theorem dX10_pass_31 : decode cX10_pass 31 = .ok (.iadd, 1) := by decide +kernel
theorem dX10_pass_32 : decode cX10_pass 32 = .ok (.sipush 199, 3) := by decide +kernel
theorem dX10_pass_35 : decode cX10_pass 35 = .ok (.if_icmp .le 7, 3) := by decide +kernel
theorem dX10_pass_38 : decode cX10_pass 38 = .ok (.iconst 1, 1) := by decide +kernel
theorem dX10_pass_39 : decode cX10_pass 39 = .ok (.goto 4, 3) := by decide +kernel
theorem dX10_pass_42 : decode cX10_pass 42 = .ok (.iconst 0, 1) := by decide +kernel
theorem dX10_pass_43 : decode cX10_pass 43 = .ok (.iconst 2, 1) := by decide +kernel
theorem dX10_pass_44 : decode cX10_pass 44 = .ok (.invokevirtual 51, 3) := by decide +kernel
theorem dX10_pass_47 : decode cX10_pass 47 = .ok (.ifCond .eq 5, 3) := by decide +kernel
theorem dX10_pass_50 : decode cX10_pass 50 = .ok (.iconst 0, 1) := by decide +kernel
theorem dX10_pass_51 : decode cX10_pass 51 = .ok (.ireturn, 1) := by decide +kernel
theorem dX10_pass_52 : decode cX10_pass 52 = .ok (.aload_n 0, 1) := by decide +kernel
theorem dX10_pass_53 : decode cX10_pass 53 = .ok (.invokevirtual 55, 3) := by decide +kernel
theorem dX10_pass_56 : decode cX10_pass 56 = .ok (.aload_n 0, 1) := by decide +kernel
theorem dX10_pass_57 : decode cX10_pass 57 = .ok (.getfield 9, 3) := by decide +kernel
theorem dX10_pass_60 : decode cX10_pass 60 = .ok (.iconst 0, 1) := by decide +kernel
theorem dX10_pass_61 : decode cX10_pass 61 = .ok (.dup2, 1) := by decide +kernel
theorem dX10_pass_62 : decode cX10_pass 62 = .ok (.iaload, 1) := by decide +kernel
theorem dX10_pass_63 : decode cX10_pass 63 = .ok (.iload_n 1, 1) := by decide +kernel
theorem dX10_pass_64 : decode cX10_pass 64 = .ok (.iadd, 1) := by decide +kernel
theorem dX10_pass_65 : decode cX10_pass 65 = .ok (.iastore, 1) := by decide +kernel
theorem dX10_pass_66 : decode cX10_pass 66 = .ok (.aload_n 0, 1) := by decide +kernel
theorem dX10_pass_67 : decode cX10_pass 67 = .ok (.getfield 9, 3) := by decide +kernel
theorem dX10_pass_70 : decode cX10_pass 70 = .ok (.iconst 0, 1) := by decide +kernel
theorem dX10_pass_71 : decode cX10_pass 71 = .ok (.iaload, 1) := by decide +kernel
theorem dX10_pass_72 : decode cX10_pass 72 = .ok (.ireturn, 1) := by decide +kernel
theorem dX10_today_0 : decode cX10_today 0 = .ok (.aload_n 0, 1) := by decide +kernel
theorem dX10_today_1 : decode cX10_today 1 = .ok (.iconst 0, 1) := by decide +kernel
theorem dX10_today_2 : decode cX10_today 2 = .ok (.putfield 31, 3) := by decide +kernel
theorem dX10_today_5 : decode cX10_today 5 = .ok (.aload_n 0, 1) := by decide +kernel
theorem dX10_today_6 : decode cX10_today 6 = .ok (.getfield 9, 3) := by decide +kernel
theorem dX10_today_9 : decode cX10_today 9 = .ok (.iconst 0, 1) := by decide +kernel
theorem dX10_today_10 : decode cX10_today 10 = .ok (.iaload, 1) := by decide +kernel
theorem dX10_today_11 : decode cX10_today 11 = .ok (.ireturn, 1) := by decide +kernel
theorem dX10_testOn_0 : decode cX10_testOn 0 = .ok (.iconst (-1), 1) := by decide +kernel
theorem dX10_testOn_1 : decode cX10_testOn 1 = .ok (.istore_n 2, 1) := by decide +kernel
theorem dX10_testOn_2 : decode cX10_testOn 2 = .ok (.iconst 0, 1) := by decide +kernel
theorem dX10_testOn_3 : decode cX10_testOn 3 = .ok (.istore_n 3, 1) := by decide +kernel
theorem dX10_testOn_4 : decode cX10_testOn 4 = .ok (.iload_n 3, 1) := by decide +kernel
theorem dX10_testOn_5 : decode cX10_testOn 5 = .ok (.aload_n 0, 1) := by decide +kernel
theorem dX10_testOn_6 : decode cX10_testOn 6 = .ok (.getfield 9, 3) := by decide +kernel
theorem dX10_testOn_9 : decode cX10_testOn 9 = .ok (.iconst 3, 1) := by decide +kernel
theorem dX10_testOn_10 : decode cX10_testOn 10 = .ok (.iaload, 1) := by decide +kernel
theorem dX10_testOn_11 : decode cX10_testOn 11 = .ok (.if_icmp .ge 30, 3) := by decide +kernel
theorem dX10_testOn_14 : decode cX10_testOn 14 = .ok (.aload_n 0, 1) := by decide +kernel
theorem dX10_testOn_15 : decode cX10_testOn 15 = .ok (.getfield 9, 3) := by decide +kernel
theorem dX10_testOn_18 : decode cX10_testOn 18 = .ok (.bipush 20, 2) := by decide +kernel
theorem dX10_testOn_20 : decode cX10_testOn 20 = .ok (.iconst 2, 1) := by decide +kernel
theorem dX10_testOn_21 : decode cX10_testOn 21 = .ok (.iload_n 3, 1) := by decide +kernel
theorem dX10_testOn_22 : decode cX10_testOn 22 = .ok (.imul, 1) := by decide +kernel
theorem dX10_testOn_23 : decode cX10_testOn 23 = .ok (.iadd, 1) := by decide +kernel
theorem dX10_testOn_24 : decode cX10_testOn 24 = .ok (.iaload, 1) := by decide +kernel
theorem dX10_testOn_25 : decode cX10_testOn 25 = .ok (.iload_n 1, 1) := by decide +kernel
theorem dX10_testOn_26 : decode cX10_testOn 26 = .ok (.if_icmp .ne 7, 3) := by decide +kernel
theorem dX10_testOn_29 : decode cX10_testOn 29 = .ok (.iload_n 3, 1) := by decide +kernel
theorem dX10_testOn_30 : decode cX10_testOn 30 = .ok (.goto 4, 3) := by decide +kernel
theorem dX10_testOn_33 : decode cX10_testOn 33 = .ok (.iload_n 2, 1) := by decide +kernel
theorem dX10_testOn_34 : decode cX10_testOn 34 = .ok (.istore_n 2, 1) := by decide +kernel
theorem dX10_testOn_35 : decode cX10_testOn 35 = .ok (.iinc 3 1, 3) := by decide +kernel
theorem dX10_testOn_38 : decode cX10_testOn 38 = .ok (.goto (-34), 3) := by decide +kernel
theorem dX10_testOn_41 : decode cX10_testOn 41 = .ok (.iload_n 2, 1) := by decide +kernel
theorem dX10_testOn_42 : decode cX10_testOn 42 = .ok (.ireturn, 1) := by decide +kernel
theorem dX10_addTest_0 : decode cX10_addTest 0 = .ok (.aload_n 0, 1) := by decide +kernel
theorem dX10_addTest_1 : decode cX10_addTest 1 = .ok (.aload_n 0, 1) := by decide +kernel
theorem dX10_addTest_2 : decode cX10_addTest 2 = .ok (.iload_n 1, 1) := by decide +kernel
theorem dX10_addTest_3 : decode cX10_addTest 3 = .ok (.invokevirtual 58, 3) := by decide +kernel
theorem dX10_addTest_6 : decode cX10_addTest 6 = .ok (.ifCond .ne 15, 3) := by decide +kernel
theorem dX10_addTest_9 : decode cX10_addTest 9 = .ok (.iload_n 2, 1) := by decide +kernel
theorem dX10_addTest_10 : decode cX10_addTest 10 = .ok (.bipush 50, 2) := by decide +kernel
theorem dX10_addTest_12 : decode cX10_addTest 12 = .ok (.sipush 400, 3) := by decide +kernel
theorem dX10_addTest_15 : decode cX10_addTest 15 = .ok (.invokestatic 47, 3) := by decide +kernel
theorem dX10_addTest_18 : decode cX10_addTest 18 = .ok (.ifCond .ne 7, 3) := by decide +kernel
theorem dX10_addTest_21 : decode cX10_addTest 21 = .ok (.iconst 1, 1) := by decide +kernel
theorem dX10_addTest_22 : decode cX10_addTest 22 = .ok (.goto 4, 3) := by decide +kernel
theorem dX10_addTest_25 : decode cX10_addTest 25 = .ok (.iconst 0, 1) := by decide +kernel
theorem dX10_addTest_26 : decode cX10_addTest 26 = .ok (.iconst 1, 1) := by decide +kernel
theorem dX10_addTest_27 : decode cX10_addTest 27 = .ok (.invokevirtual 51, 3) := by decide +kernel
theorem dX10_addTest_30 : decode cX10_addTest 30 = .ok (.ifCond .ne 35, 3) := by decide +kernel
theorem dX10_addTest_33 : decode cX10_addTest 33 = .ok (.aload_n 0, 1) := by decide +kernel
theorem dX10_addTest_34 : decode cX10_addTest 34 = .ok (.aload_n 0, 1) := by decide +kernel
theorem dX10_addTest_35 : decode cX10_addTest 35 = .ok (.getfield 9, 3) := by decide +kernel
theorem dX10_addTest_38 : decode cX10_addTest 38 = .ok (.iconst 3, 1) := by decide +kernel
theorem dX10_addTest_39 : decode cX10_addTest 39 = .ok (.iaload, 1) := by decide +kernel
theorem dX10_addTest_40 : decode cX10_addTest 40 = .ok (.bipush 10, 2) := by decide +kernel
theorem dX10_addTest_42 : decode cX10_addTest 42 = .ok (.if_icmp .eq 11, 3) := by decide +kernel
theorem dX10_addTest_45 : decode cX10_addTest 45 = .ok (.aload_n 0, 1) := by decide +kernel
theorem dX10_addTest_46 : decode cX10_addTest 46 = .ok (.iload_n 1, 1) := by decide +kernel
theorem dX10_addTest_47 : decode cX10_addTest 47 = .ok (.invokevirtual 62, 3) := by decide +kernel
theorem dX10_addTest_50 : decode cX10_addTest 50 = .ok (.ifCond .lt 7, 3) := by decide +kernel
theorem dX10_addTest_53 : decode cX10_addTest 53 = .ok (.iconst 1, 1) := by decide +kernel
theorem dX10_addTest_54 : decode cX10_addTest 54 = .ok (.goto 4, 3) := by decide +kernel
theorem dX10_addTest_57 : decode cX10_addTest 57 = .ok (.iconst 0, 1) := by decide +kernel
theorem dX10_addTest_58 : decode cX10_addTest 58 = .ok (.iconst 2, 1) := by decide +kernel
theorem dX10_addTest_59 : decode cX10_addTest 59 = .ok (.invokevirtual 51, 3) := by decide +kernel
theorem dX10_addTest_62 : decode cX10_addTest 62 = .ok (.ifCond .eq 5, 3) := by decide +kernel
theorem dX10_addTest_65 : decode cX10_addTest 65 = .ok (.iconst 0, 1) := by decide +kernel
theorem dX10_addTest_66 : decode cX10_addTest 66 = .ok (.ireturn, 1) := by decide +kernel
theorem dX10_addTest_67 : decode cX10_addTest 67 = .ok (.aload_n 0, 1) := by decide +kernel
theorem dX10_addTest_68 : decode cX10_addTest 68 = .ok (.invokevirtual 55, 3) := by decide +kernel
theorem dX10_addTest_71 : decode cX10_addTest 71 = .ok (.aload_n 0, 1) := by decide +kernel
theorem dX10_addTest_72 : decode cX10_addTest 72 = .ok (.getfield 9, 3) := by decide +kernel
theorem dX10_addTest_75 : decode cX10_addTest 75 = .ok (.bipush 20, 2) := by decide +kernel
theorem dX10_addTest_77 : decode cX10_addTest 77 = .ok (.iconst 2, 1) := by decide +kernel
theorem dX10_addTest_78 : decode cX10_addTest 78 = .ok (.aload_n 0, 1) := by decide +kernel
theorem dX10_addTest_79 : decode cX10_addTest 79 = .ok (.getfield 9, 3) := by decide +kernel
theorem dX10_addTest_82 : decode cX10_addTest 82 = .ok (.iconst 3, 1) := by decide +kernel
theorem dX10_addTest_83 : decode cX10_addTest 83 = .ok (.iaload, 1) := by decide +kernel
theorem dX10_addTest_84 : decode cX10_addTest 84 = .ok (.imul, 1) := by decide +kernel
theorem dX10_addTest_85 : decode cX10_addTest 85 = .ok (.iadd, 1) := by decide +kernel
theorem dX10_addTest_86 : decode cX10_addTest 86 = .ok (.iload_n 1, 1) := by decide +kernel
theorem dX10_addTest_87 : decode cX10_addTest 87 = .ok (.iastore, 1) := by decide +kernel
theorem dX10_addTest_88 : decode cX10_addTest 88 = .ok (.aload_n 0, 1) := by decide +kernel
theorem dX10_addTest_89 : decode cX10_addTest 89 = .ok (.getfield 9, 3) := by decide +kernel
theorem dX10_addTest_92 : decode cX10_addTest 92 = .ok (.bipush 20, 2) := by decide +kernel
theorem dX10_addTest_94 : decode cX10_addTest 94 = .ok (.iconst 2, 1) := by decide +kernel
theorem dX10_addTest_95 : decode cX10_addTest 95 = .ok (.aload_n 0, 1) := by decide +kernel
theorem dX10_addTest_96 : decode cX10_addTest 96 = .ok (.getfield 9, 3) := by decide +kernel
theorem dX10_addTest_99 : decode cX10_addTest 99 = .ok (.iconst 3, 1) := by decide +kernel
theorem dX10_addTest_100 : decode cX10_addTest 100 = .ok (.iaload, 1) := by decide +kernel
theorem dX10_addTest_101 : decode cX10_addTest 101 = .ok (.imul, 1) := by decide +kernel
theorem dX10_addTest_102 : decode cX10_addTest 102 = .ok (.iadd, 1) := by decide +kernel
theorem dX10_addTest_103 : decode cX10_addTest 103 = .ok (.iconst 1, 1) := by decide +kernel
theorem dX10_addTest_104 : decode cX10_addTest 104 = .ok (.iadd, 1) := by decide +kernel
theorem dX10_addTest_105 : decode cX10_addTest 105 = .ok (.iload_n 2, 1) := by decide +kernel
theorem dX10_addTest_106 : decode cX10_addTest 106 = .ok (.iastore, 1) := by decide +kernel
theorem dX10_addTest_107 : decode cX10_addTest 107 = .ok (.aload_n 0, 1) := by decide +kernel
theorem dX10_addTest_108 : decode cX10_addTest 108 = .ok (.getfield 9, 3) := by decide +kernel
theorem dX10_addTest_111 : decode cX10_addTest 111 = .ok (.iconst 3, 1) := by decide +kernel
theorem dX10_addTest_112 : decode cX10_addTest 112 = .ok (.dup2, 1) := by decide +kernel
theorem dX10_addTest_113 : decode cX10_addTest 113 = .ok (.iaload, 1) := by decide +kernel
theorem dX10_addTest_114 : decode cX10_addTest 114 = .ok (.iconst 1, 1) := by decide +kernel
theorem dX10_addTest_115 : decode cX10_addTest 115 = .ok (.iadd, 1) := by decide +kernel
theorem dX10_addTest_116 : decode cX10_addTest 116 = .ok (.iastore, 1) := by decide +kernel
theorem dX10_addTest_117 : decode cX10_addTest 117 = .ok (.iconst 0, 1) := by decide +kernel
theorem dX10_addTest_118 : decode cX10_addTest 118 = .ok (.istore_n 3, 1) := by decide +kernel
theorem dX10_addTest_119 : decode cX10_addTest 119 = .ok (.aload_n 0, 1) := by decide +kernel
theorem dX10_addTest_120 : decode cX10_addTest 120 = .ok (.getfield 9, 3) := by decide +kernel
theorem dX10_addTest_123 : decode cX10_addTest 123 = .ok (.astore 4, 2) := by decide +kernel
theorem dX10_addTest_125 : decode cX10_addTest 125 = .ok (.iconst 0, 1) := by decide +kernel
theorem dX10_addTest_126 : decode cX10_addTest 126 = .ok (.istore 5, 2) := by decide +kernel
theorem dX10_addTest_128 : decode cX10_addTest 128 = .ok (.iload 5, 2) := by decide +kernel
theorem dX10_addTest_130 : decode cX10_addTest 130 = .ok (.aload 4, 2) := by decide +kernel
theorem dX10_addTest_132 : decode cX10_addTest 132 = .ok (.iconst 2, 1) := by decide +kernel
theorem dX10_addTest_133 : decode cX10_addTest 133 = .ok (.iaload, 1) := by decide +kernel
theorem dX10_addTest_134 : decode cX10_addTest 134 = .ok (.if_icmp .ge 55, 3) := by decide +kernel
theorem dX10_addTest_137 : decode cX10_addTest 137 = .ok (.aload_n 0, 1) := by decide +kernel
theorem dX10_addTest_138 : decode cX10_addTest 138 = .ok (.iload 5, 2) := by decide +kernel
theorem dX10_addTest_140 : decode cX10_addTest 140 = .ok (.invokevirtual 66, 3) := by decide +kernel
theorem dX10_addTest_143 : decode cX10_addTest 143 = .ok (.istore 6, 2) := by decide +kernel
theorem dX10_addTest_145 : decode cX10_addTest 145 = .ok (.aload_n 0, 1) := by decide +kernel
theorem dX10_addTest_146 : decode cX10_addTest 146 = .ok (.aload_n 0, 1) := by decide +kernel
theorem dX10_addTest_147 : decode cX10_addTest 147 = .ok (.getfield 15, 3) := by decide +kernel
theorem dX10_addTest_150 : decode cX10_addTest 150 = .ok (.aload_n 0, 1) := by decide +kernel
theorem dX10_addTest_151 : decode cX10_addTest 151 = .ok (.getfield 35, 3) := by decide +kernel
theorem dX10_addTest_154 : decode cX10_addTest 154 = .ok (.aaload, 1) := by decide +kernel
theorem dX10_addTest_155 : decode cX10_addTest 155 = .ok (.putfield 9, 3) := by decide +kernel
theorem dX10_addTest_158 : decode cX10_addTest 158 = .ok (.iload_n 3, 1) := by decide +kernel
theorem dX10_addTest_159 : decode cX10_addTest 159 = .ok (.aload_n 0, 1) := by decide +kernel
theorem dX10_addTest_160 : decode cX10_addTest 160 = .ok (.iload 5, 2) := by decide +kernel
theorem dX10_addTest_162 : decode cX10_addTest 162 = .ok (.invokevirtual 66, 3) := by decide +kernel
theorem dX10_addTest_165 : decode cX10_addTest 165 = .ok (.iload 6, 2) := by decide +kernel
theorem dX10_addTest_167 : decode cX10_addTest 167 = .ok (.if_icmp .ne 7, 3) := by decide +kernel
theorem dX10_addTest_170 : decode cX10_addTest 170 = .ok (.iconst 0, 1) := by decide +kernel
theorem dX10_addTest_171 : decode cX10_addTest 171 = .ok (.goto 4, 3) := by decide +kernel
theorem dX10_addTest_174 : decode cX10_addTest 174 = .ok (.iconst 1, 1) := by decide +kernel
theorem dX10_addTest_175 : decode cX10_addTest 175 = .ok (.iadd, 1) := by decide +kernel
theorem dX10_addTest_176 : decode cX10_addTest 176 = .ok (.istore_n 3, 1) := by decide +kernel
theorem dX10_addTest_177 : decode cX10_addTest 177 = .ok (.aload_n 0, 1) := by decide +kernel
theorem dX10_addTest_178 : decode cX10_addTest 178 = .ok (.aload 4, 2) := by decide +kernel
theorem dX10_addTest_180 : decode cX10_addTest 180 = .ok (.putfield 9, 3) := by decide +kernel
theorem dX10_addTest_183 : decode cX10_addTest 183 = .ok (.iinc 5 1, 3) := by decide +kernel
theorem dX10_addTest_186 : decode cX10_addTest 186 = .ok (.goto (-58), 3) := by decide +kernel
theorem dX10_addTest_189 : decode cX10_addTest 189 = .ok (.iload_n 3, 1) := by decide +kernel
theorem dX10_addTest_190 : decode cX10_addTest 190 = .ok (.ireturn, 1) := by decide +kernel
theorem dX10_removeTest_0 : decode cX10_removeTest 0 = .ok (.aload_n 0, 1) := by decide +kernel
theorem dX10_removeTest_1 : decode cX10_removeTest 1 = .ok (.iload_n 1, 1) := by decide +kernel
theorem dX10_removeTest_2 : decode cX10_removeTest 2 = .ok (.invokevirtual 62, 3) := by decide +kernel
theorem dX10_removeTest_5 : decode cX10_removeTest 5 = .ok (.istore_n 2, 1) := by decide +kernel
theorem dX10_removeTest_6 : decode cX10_removeTest 6 = .ok (.aload_n 0, 1) := by decide +kernel
theorem dX10_removeTest_7 : decode cX10_removeTest 7 = .ok (.iload_n 2, 1) := by decide +kernel
theorem dX10_removeTest_8 : decode cX10_removeTest 8 = .ok (.ifCond .ge 7, 3) := by decide +kernel
theorem dX10_removeTest_11 : decode cX10_removeTest 11 = .ok (.iconst 1, 1) := by decide +kernel
theorem dX10_removeTest_12 : decode cX10_removeTest 12 = .ok (.goto 4, 3) := by decide +kernel
theorem dX10_removeTest_15 : decode cX10_removeTest 15 = .ok (.iconst 0, 1) := by decide +kernel
theorem dX10_removeTest_16 : decode cX10_removeTest 16 = .ok (.iconst 1, 1) := by decide +kernel
theorem dX10_removeTest_17 : decode cX10_removeTest 17 = .ok (.invokevirtual 51, 3) := by decide +kernel
theorem dX10_removeTest_20 : decode cX10_removeTest 20 = .ok (.ifCond .eq 5, 3) := by decide +kernel
theorem dX10_removeTest_23 : decode cX10_removeTest 23 = .ok (.iconst 0, 1) := by decide +kernel
theorem dX10_removeTest_24 : decode cX10_removeTest 24 = .ok (.ireturn, 1) := by decide +kernel
theorem dX10_removeTest_25 : decode cX10_removeTest 25 = .ok (.aload_n 0, 1) := by decide +kernel
theorem dX10_removeTest_26 : decode cX10_removeTest 26 = .ok (.invokevirtual 55, 3) := by decide +kernel
theorem dX10_removeTest_29 : decode cX10_removeTest 29 = .ok (.aload_n 0, 1) := by decide +kernel
theorem dX10_removeTest_30 : decode cX10_removeTest 30 = .ok (.getfield 9, 3) := by decide +kernel
theorem dX10_removeTest_33 : decode cX10_removeTest 33 = .ok (.bipush 20, 2) := by decide +kernel
theorem dX10_removeTest_35 : decode cX10_removeTest 35 = .ok (.iconst 2, 1) := by decide +kernel
theorem dX10_removeTest_36 : decode cX10_removeTest 36 = .ok (.iload_n 2, 1) := by decide +kernel
theorem dX10_removeTest_37 : decode cX10_removeTest 37 = .ok (.imul, 1) := by decide +kernel
theorem dX10_removeTest_38 : decode cX10_removeTest 38 = .ok (.iadd, 1) := by decide +kernel
theorem dX10_removeTest_39 : decode cX10_removeTest 39 = .ok (.iconst 1, 1) := by decide +kernel
theorem dX10_removeTest_40 : decode cX10_removeTest 40 = .ok (.iadd, 1) := by decide +kernel
theorem dX10_removeTest_41 : decode cX10_removeTest 41 = .ok (.iaload, 1) := by decide +kernel
theorem dX10_removeTest_42 : decode cX10_removeTest 42 = .ok (.istore_n 3, 1) := by decide +kernel
theorem dX10_removeTest_43 : decode cX10_removeTest 43 = .ok (.aload_n 0, 1) := by decide +kernel
theorem dX10_removeTest_44 : decode cX10_removeTest 44 = .ok (.getfield 9, 3) := by decide +kernel
theorem dX10_removeTest_47 : decode cX10_removeTest 47 = .ok (.iconst 3, 1) := by decide +kernel
theorem dX10_removeTest_48 : decode cX10_removeTest 48 = .ok (.dup2, 1) := by decide +kernel
theorem dX10_removeTest_49 : decode cX10_removeTest 49 = .ok (.iaload, 1) := by decide +kernel
theorem dX10_removeTest_50 : decode cX10_removeTest 50 = .ok (.iconst 1, 1) := by decide +kernel
theorem dX10_removeTest_51 : decode cX10_removeTest 51 = .ok (.isub, 1) := by decide +kernel
theorem dX10_removeTest_52 : decode cX10_removeTest 52 = .ok (.iastore, 1) := by decide +kernel
theorem dX10_removeTest_53 : decode cX10_removeTest 53 = .ok (.aload_n 0, 1) := by decide +kernel
theorem dX10_removeTest_54 : decode cX10_removeTest 54 = .ok (.getfield 9, 3) := by decide +kernel
theorem dX10_removeTest_57 : decode cX10_removeTest 57 = .ok (.bipush 20, 2) := by decide +kernel
theorem dX10_removeTest_59 : decode cX10_removeTest 59 = .ok (.iconst 2, 1) := by decide +kernel
theorem dX10_removeTest_60 : decode cX10_removeTest 60 = .ok (.iload_n 2, 1) := by decide +kernel
theorem dX10_removeTest_61 : decode cX10_removeTest 61 = .ok (.imul, 1) := by decide +kernel
theorem dX10_removeTest_62 : decode cX10_removeTest 62 = .ok (.iadd, 1) := by decide +kernel
theorem dX10_removeTest_63 : decode cX10_removeTest 63 = .ok (.aload_n 0, 1) := by decide +kernel
theorem dX10_removeTest_64 : decode cX10_removeTest 64 = .ok (.getfield 9, 3) := by decide +kernel
theorem dX10_removeTest_67 : decode cX10_removeTest 67 = .ok (.bipush 20, 2) := by decide +kernel
theorem dX10_removeTest_69 : decode cX10_removeTest 69 = .ok (.iconst 2, 1) := by decide +kernel
theorem dX10_removeTest_70 : decode cX10_removeTest 70 = .ok (.aload_n 0, 1) := by decide +kernel
theorem dX10_removeTest_71 : decode cX10_removeTest 71 = .ok (.getfield 9, 3) := by decide +kernel
theorem dX10_removeTest_74 : decode cX10_removeTest 74 = .ok (.iconst 3, 1) := by decide +kernel
theorem dX10_removeTest_75 : decode cX10_removeTest 75 = .ok (.iaload, 1) := by decide +kernel
theorem dX10_removeTest_76 : decode cX10_removeTest 76 = .ok (.imul, 1) := by decide +kernel
theorem dX10_removeTest_77 : decode cX10_removeTest 77 = .ok (.iadd, 1) := by decide +kernel
theorem dX10_removeTest_78 : decode cX10_removeTest 78 = .ok (.iaload, 1) := by decide +kernel
theorem dX10_removeTest_79 : decode cX10_removeTest 79 = .ok (.iastore, 1) := by decide +kernel
theorem dX10_removeTest_80 : decode cX10_removeTest 80 = .ok (.aload_n 0, 1) := by decide +kernel
theorem dX10_removeTest_81 : decode cX10_removeTest 81 = .ok (.getfield 9, 3) := by decide +kernel
theorem dX10_removeTest_84 : decode cX10_removeTest 84 = .ok (.bipush 20, 2) := by decide +kernel
theorem dX10_removeTest_86 : decode cX10_removeTest 86 = .ok (.iconst 2, 1) := by decide +kernel
theorem dX10_removeTest_87 : decode cX10_removeTest 87 = .ok (.iload_n 2, 1) := by decide +kernel
theorem dX10_removeTest_88 : decode cX10_removeTest 88 = .ok (.imul, 1) := by decide +kernel
theorem dX10_removeTest_89 : decode cX10_removeTest 89 = .ok (.iadd, 1) := by decide +kernel
theorem dX10_removeTest_90 : decode cX10_removeTest 90 = .ok (.iconst 1, 1) := by decide +kernel
theorem dX10_removeTest_91 : decode cX10_removeTest 91 = .ok (.iadd, 1) := by decide +kernel
theorem dX10_removeTest_92 : decode cX10_removeTest 92 = .ok (.aload_n 0, 1) := by decide +kernel
theorem dX10_removeTest_93 : decode cX10_removeTest 93 = .ok (.getfield 9, 3) := by decide +kernel
theorem dX10_removeTest_96 : decode cX10_removeTest 96 = .ok (.bipush 20, 2) := by decide +kernel
theorem dX10_removeTest_98 : decode cX10_removeTest 98 = .ok (.iconst 2, 1) := by decide +kernel
theorem dX10_removeTest_99 : decode cX10_removeTest 99 = .ok (.aload_n 0, 1) := by decide +kernel
theorem dX10_removeTest_100 : decode cX10_removeTest 100 = .ok (.getfield 9, 3) := by decide +kernel
theorem dX10_removeTest_103 : decode cX10_removeTest 103 = .ok (.iconst 3, 1) := by decide +kernel
theorem dX10_removeTest_104 : decode cX10_removeTest 104 = .ok (.iaload, 1) := by decide +kernel
theorem dX10_removeTest_105 : decode cX10_removeTest 105 = .ok (.imul, 1) := by decide +kernel
theorem dX10_removeTest_106 : decode cX10_removeTest 106 = .ok (.iadd, 1) := by decide +kernel
theorem dX10_removeTest_107 : decode cX10_removeTest 107 = .ok (.iconst 1, 1) := by decide +kernel
theorem dX10_removeTest_108 : decode cX10_removeTest 108 = .ok (.iadd, 1) := by decide +kernel
theorem dX10_removeTest_109 : decode cX10_removeTest 109 = .ok (.iaload, 1) := by decide +kernel
theorem dX10_removeTest_110 : decode cX10_removeTest 110 = .ok (.iastore, 1) := by decide +kernel
theorem dX10_removeTest_111 : decode cX10_removeTest 111 = .ok (.iload_n 3, 1) := by decide +kernel
theorem dX10_removeTest_112 : decode cX10_removeTest 112 = .ok (.ireturn, 1) := by decide +kernel
theorem dX10_testCount_0 : decode cX10_testCount 0 = .ok (.aload_n 0, 1) := by decide +kernel
theorem dX10_testCount_1 : decode cX10_testCount 1 = .ok (.iconst 0, 1) := by decide +kernel
theorem dX10_testCount_2 : decode cX10_testCount 2 = .ok (.putfield 31, 3) := by decide +kernel
theorem dX10_testCount_5 : decode cX10_testCount 5 = .ok (.aload_n 0, 1) := by decide +kernel
theorem dX10_testCount_6 : decode cX10_testCount 6 = .ok (.getfield 9, 3) := by decide +kernel
theorem dX10_testCount_9 : decode cX10_testCount 9 = .ok (.iconst 3, 1) := by decide +kernel
theorem dX10_testCount_10 : decode cX10_testCount 10 = .ok (.iaload, 1) := by decide +kernel
theorem dX10_testCount_11 : decode cX10_testCount 11 = .ok (.ireturn, 1) := by decide +kernel
theorem dX10_threshold_0 : decode cX10_threshold 0 = .ok (.iconst (-1), 1) := by decide +kernel
theorem dX10_threshold_1 : decode cX10_threshold 1 = .ok (.istore_n 2, 1) := by decide +kernel
theorem dX10_threshold_2 : decode cX10_threshold 2 = .ok (.sipush 200, 3) := by decide +kernel
theorem dX10_threshold_5 : decode cX10_threshold 5 = .ok (.istore_n 3, 1) := by decide +kernel
theorem dX10_threshold_6 : decode cX10_threshold 6 = .ok (.iconst 0, 1) := by decide +kernel
theorem dX10_threshold_7 : decode cX10_threshold 7 = .ok (.istore 4, 2) := by decide +kernel
theorem dX10_threshold_9 : decode cX10_threshold 9 = .ok (.iload 4, 2) := by decide +kernel
theorem dX10_threshold_11 : decode cX10_threshold 11 = .ok (.aload_n 0, 1) := by decide +kernel
theorem dX10_threshold_12 : decode cX10_threshold 12 = .ok (.getfield 9, 3) := by decide +kernel
theorem dX10_threshold_15 : decode cX10_threshold 15 = .ok (.iconst 3, 1) := by decide +kernel
theorem dX10_threshold_16 : decode cX10_threshold 16 = .ok (.iaload, 1) := by decide +kernel
theorem dX10_threshold_17 : decode cX10_threshold 17 = .ok (.if_icmp .ge 69, 3) := by decide +kernel
theorem dX10_threshold_20 : decode cX10_threshold 20 = .ok (.aload_n 0, 1) := by decide +kernel
theorem dX10_threshold_21 : decode cX10_threshold 21 = .ok (.getfield 9, 3) := by decide +kernel
theorem dX10_threshold_24 : decode cX10_threshold 24 = .ok (.bipush 20, 2) := by decide +kernel
theorem dX10_threshold_26 : decode cX10_threshold 26 = .ok (.iconst 2, 1) := by decide +kernel
theorem dX10_threshold_27 : decode cX10_threshold 27 = .ok (.iload 4, 2) := by decide +kernel
theorem dX10_threshold_29 : decode cX10_threshold 29 = .ok (.imul, 1) := by decide +kernel
theorem dX10_threshold_30 : decode cX10_threshold 30 = .ok (.iadd, 1) := by decide +kernel
theorem dX10_threshold_31 : decode cX10_threshold 31 = .ok (.iaload, 1) := by decide +kernel
theorem dX10_threshold_32 : decode cX10_threshold 32 = .ok (.iload_n 1, 1) := by decide +kernel
theorem dX10_threshold_33 : decode cX10_threshold 33 = .ok (.if_icmp .gt 47, 3) := by decide +kernel
theorem dX10_threshold_36 : decode cX10_threshold 36 = .ok (.aload_n 0, 1) := by decide +kernel
theorem dX10_threshold_37 : decode cX10_threshold 37 = .ok (.getfield 9, 3) := by decide +kernel
theorem dX10_threshold_40 : decode cX10_threshold 40 = .ok (.bipush 20, 2) := by decide +kernel
theorem dX10_threshold_42 : decode cX10_threshold 42 = .ok (.iconst 2, 1) := by decide +kernel
theorem dX10_threshold_43 : decode cX10_threshold 43 = .ok (.iload 4, 2) := by decide +kernel
theorem dX10_threshold_45 : decode cX10_threshold 45 = .ok (.imul, 1) := by decide +kernel
theorem dX10_threshold_46 : decode cX10_threshold 46 = .ok (.iadd, 1) := by decide +kernel
theorem dX10_threshold_47 : decode cX10_threshold 47 = .ok (.iaload, 1) := by decide +kernel
theorem dX10_threshold_48 : decode cX10_threshold 48 = .ok (.iload_n 2, 1) := by decide +kernel
theorem dX10_threshold_49 : decode cX10_threshold 49 = .ok (.if_icmp .le 31, 3) := by decide +kernel
theorem dX10_threshold_52 : decode cX10_threshold 52 = .ok (.aload_n 0, 1) := by decide +kernel
theorem dX10_threshold_53 : decode cX10_threshold 53 = .ok (.getfield 9, 3) := by decide +kernel
theorem dX10_threshold_56 : decode cX10_threshold 56 = .ok (.bipush 20, 2) := by decide +kernel
theorem dX10_threshold_58 : decode cX10_threshold 58 = .ok (.iconst 2, 1) := by decide +kernel
theorem dX10_threshold_59 : decode cX10_threshold 59 = .ok (.iload 4, 2) := by decide +kernel
theorem dX10_threshold_61 : decode cX10_threshold 61 = .ok (.imul, 1) := by decide +kernel
theorem dX10_threshold_62 : decode cX10_threshold 62 = .ok (.iadd, 1) := by decide +kernel
theorem dX10_threshold_63 : decode cX10_threshold 63 = .ok (.iaload, 1) := by decide +kernel
theorem dX10_threshold_64 : decode cX10_threshold 64 = .ok (.istore_n 2, 1) := by decide +kernel
theorem dX10_threshold_65 : decode cX10_threshold 65 = .ok (.aload_n 0, 1) := by decide +kernel
theorem dX10_threshold_66 : decode cX10_threshold 66 = .ok (.getfield 9, 3) := by decide +kernel
theorem dX10_threshold_69 : decode cX10_threshold 69 = .ok (.bipush 20, 2) := by decide +kernel
theorem dX10_threshold_71 : decode cX10_threshold 71 = .ok (.iconst 2, 1) := by decide +kernel
theorem dX10_threshold_72 : decode cX10_threshold 72 = .ok (.iload 4, 2) := by decide +kernel
theorem dX10_threshold_74 : decode cX10_threshold 74 = .ok (.imul, 1) := by decide +kernel
theorem dX10_threshold_75 : decode cX10_threshold 75 = .ok (.iadd, 1) := by decide +kernel
theorem dX10_threshold_76 : decode cX10_threshold 76 = .ok (.iconst 1, 1) := by decide +kernel
theorem dX10_threshold_77 : decode cX10_threshold 77 = .ok (.iadd, 1) := by decide +kernel
theorem dX10_threshold_78 : decode cX10_threshold 78 = .ok (.iaload, 1) := by decide +kernel
theorem dX10_threshold_79 : decode cX10_threshold 79 = .ok (.istore_n 3, 1) := by decide +kernel
theorem dX10_threshold_80 : decode cX10_threshold 80 = .ok (.iinc 4 1, 3) := by decide +kernel
theorem dX10_threshold_83 : decode cX10_threshold 83 = .ok (.goto (-74), 3) := by decide +kernel
theorem dX10_threshold_86 : decode cX10_threshold 86 = .ok (.iload_n 3, 1) := by decide +kernel
theorem dX10_threshold_87 : decode cX10_threshold 87 = .ok (.ireturn, 1) := by decide +kernel
theorem dX10_thresholdOn_0 : decode cX10_thresholdOn 0 = .ok (.aload_n 0, 1) := by decide +kernel
theorem dX10_thresholdOn_1 : decode cX10_thresholdOn 1 = .ok (.iload_n 1, 1) := by decide +kernel
theorem dX10_thresholdOn_2 : decode cX10_thresholdOn 2 = .ok (.iconst 0, 1) := by decide +kernel
theorem dX10_thresholdOn_3 : decode cX10_thresholdOn 3 = .ok (.sipush 199, 3) := by decide +kernel
theorem dX10_thresholdOn_6 : decode cX10_thresholdOn 6 = .ok (.invokestatic 47, 3) := by decide +kernel
theorem dX10_thresholdOn_9 : decode cX10_thresholdOn 9 = .ok (.ifCond .ne 7, 3) := by decide +kernel
theorem dX10_thresholdOn_12 : decode cX10_thresholdOn 12 = .ok (.iconst 1, 1) := by decide +kernel
theorem dX10_thresholdOn_13 : decode cX10_thresholdOn 13 = .ok (.goto 4, 3) := by decide +kernel
theorem dX10_thresholdOn_16 : decode cX10_thresholdOn 16 = .ok (.iconst 0, 1) := by decide +kernel
theorem dX10_thresholdOn_17 : decode cX10_thresholdOn 17 = .ok (.iconst 1, 1) := by decide +kernel
theorem dX10_thresholdOn_18 : decode cX10_thresholdOn 18 = .ok (.invokevirtual 51, 3) := by decide +kernel
theorem dX10_thresholdOn_21 : decode cX10_thresholdOn 21 = .ok (.ifCond .eq 7, 3) := by decide +kernel
theorem dX10_thresholdOn_24 : decode cX10_thresholdOn 24 = .ok (.iconst 0, 1) := by decide +kernel
theorem dX10_thresholdOn_25 : decode cX10_thresholdOn 25 = .ok (.goto 8, 3) := by decide +kernel
theorem dX10_thresholdOn_28 : decode cX10_thresholdOn 28 = .ok (.aload_n 0, 1) := by decide +kernel
theorem dX10_thresholdOn_29 : decode cX10_thresholdOn 29 = .ok (.iload_n 1, 1) := by decide +kernel
theorem dX10_thresholdOn_30 : decode cX10_thresholdOn 30 = .ok (.invokevirtual 69, 3) := by decide +kernel
theorem dX10_thresholdOn_33 : decode cX10_thresholdOn 33 = .ok (.ireturn, 1) := by decide +kernel
theorem dX10_setBound_0 : decode cX10_setBound 0 = .ok (.aload_n 0, 1) := by decide +kernel
theorem dX10_setBound_1 : decode cX10_setBound 1 = .ok (.iload_n 1, 1) := by decide +kernel
theorem dX10_setBound_2 : decode cX10_setBound 2 = .ok (.iconst 2, 1) := by decide +kernel
theorem dX10_setBound_3 : decode cX10_setBound 3 = .ok (.iconst 5, 1) := by decide +kernel
theorem dX10_setBound_4 : decode cX10_setBound 4 = .ok (.invokestatic 47, 3) := by decide +kernel
theorem dX10_setBound_7 : decode cX10_setBound 7 = .ok (.ifCond .eq 14, 3) := by decide +kernel
theorem dX10_setBound_10 : decode cX10_setBound 10 = .ok (.iload_n 2, 1) := by decide +kernel
theorem dX10_setBound_11 : decode cX10_setBound 11 = .ok (.iconst 1, 1) := by decide +kernel
theorem dX10_setBound_12 : decode cX10_setBound 12 = .ok (.sipush 300, 3) := by decide +kernel
theorem dX10_setBound_15 : decode cX10_setBound 15 = .ok (.invokestatic 47, 3) := by decide +kernel
theorem dX10_setBound_18 : decode cX10_setBound 18 = .ok (.ifCond .ne 7, 3) := by decide +kernel
theorem dX10_setBound_21 : decode cX10_setBound 21 = .ok (.iconst 1, 1) := by decide +kernel
theorem dX10_setBound_22 : decode cX10_setBound 22 = .ok (.goto 4, 3) := by decide +kernel
theorem dX10_setBound_25 : decode cX10_setBound 25 = .ok (.iconst 0, 1) := by decide +kernel
theorem dX10_setBound_26 : decode cX10_setBound 26 = .ok (.iconst 1, 1) := by decide +kernel
theorem dX10_setBound_27 : decode cX10_setBound 27 = .ok (.invokevirtual 51, 3) := by decide +kernel
theorem dX10_setBound_30 : decode cX10_setBound 30 = .ok (.ifCond .ne 56, 3) := by decide +kernel
theorem dX10_setBound_33 : decode cX10_setBound 33 = .ok (.aload_n 0, 1) := by decide +kernel
theorem dX10_setBound_34 : decode cX10_setBound 34 = .ok (.iload_n 1, 1) := by decide +kernel
theorem dX10_setBound_35 : decode cX10_setBound 35 = .ok (.iconst 2, 1) := by decide +kernel
theorem dX10_setBound_36 : decode cX10_setBound 36 = .ok (.if_icmp .le 18, 3) := by decide +kernel
theorem dX10_setBound_39 : decode cX10_setBound 39 = .ok (.aload_n 0, 1) := by decide +kernel
theorem dX10_setBound_40 : decode cX10_setBound 40 = .ok (.getfield 9, 3) := by decide +kernel
theorem dX10_setBound_43 : decode cX10_setBound 43 = .ok (.bipush 8, 2) := by decide +kernel
theorem dX10_setBound_45 : decode cX10_setBound 45 = .ok (.iload_n 1, 1) := by decide +kernel
theorem dX10_setBound_46 : decode cX10_setBound 46 = .ok (.iadd, 1) := by decide +kernel
theorem dX10_setBound_47 : decode cX10_setBound 47 = .ok (.iconst 1, 1) := by decide +kernel
theorem dX10_setBound_48 : decode cX10_setBound 48 = .ok (.isub, 1) := by decide +kernel
theorem dX10_setBound_49 : decode cX10_setBound 49 = .ok (.iaload, 1) := by decide +kernel
theorem dX10_setBound_50 : decode cX10_setBound 50 = .ok (.iload_n 2, 1) := by decide +kernel
theorem dX10_setBound_51 : decode cX10_setBound 51 = .ok (.if_icmp .ge 23, 3) := by decide +kernel
theorem dX10_setBound_54 : decode cX10_setBound 54 = .ok (.iload_n 1, 1) := by decide +kernel
theorem dX10_setBound_55 : decode cX10_setBound 55 = .ok (.iconst 5, 1) := by decide +kernel
theorem dX10_setBound_56 : decode cX10_setBound 56 = .ok (.if_icmp .ge 22, 3) := by decide +kernel
theorem dX10_setBound_59 : decode cX10_setBound 59 = .ok (.aload_n 0, 1) := by decide +kernel
theorem dX10_setBound_60 : decode cX10_setBound 60 = .ok (.getfield 9, 3) := by decide +kernel
theorem dX10_setBound_63 : decode cX10_setBound 63 = .ok (.bipush 8, 2) := by decide +kernel
theorem dX10_setBound_65 : decode cX10_setBound 65 = .ok (.iload_n 1, 1) := by decide +kernel
theorem dX10_setBound_66 : decode cX10_setBound 66 = .ok (.iadd, 1) := by decide +kernel
theorem dX10_setBound_67 : decode cX10_setBound 67 = .ok (.iconst 1, 1) := by decide +kernel
theorem dX10_setBound_68 : decode cX10_setBound 68 = .ok (.iadd, 1) := by decide +kernel
theorem dX10_setBound_69 : decode cX10_setBound 69 = .ok (.iaload, 1) := by decide +kernel
theorem dX10_setBound_70 : decode cX10_setBound 70 = .ok (.iload_n 2, 1) := by decide +kernel
theorem dX10_setBound_71 : decode cX10_setBound 71 = .ok (.if_icmp .gt 7, 3) := by decide +kernel
theorem dX10_setBound_74 : decode cX10_setBound 74 = .ok (.iconst 1, 1) := by decide +kernel
theorem dX10_setBound_75 : decode cX10_setBound 75 = .ok (.goto 4, 3) := by decide +kernel
theorem dX10_setBound_78 : decode cX10_setBound 78 = .ok (.iconst 0, 1) := by decide +kernel
theorem dX10_setBound_79 : decode cX10_setBound 79 = .ok (.iconst 2, 1) := by decide +kernel
theorem dX10_setBound_80 : decode cX10_setBound 80 = .ok (.invokevirtual 51, 3) := by decide +kernel
theorem dX10_setBound_83 : decode cX10_setBound 83 = .ok (.ifCond .eq 5, 3) := by decide +kernel
theorem dX10_setBound_86 : decode cX10_setBound 86 = .ok (.iconst 0, 1) := by decide +kernel
theorem dX10_setBound_87 : decode cX10_setBound 87 = .ok (.ireturn, 1) := by decide +kernel
theorem dX10_setBound_88 : decode cX10_setBound 88 = .ok (.aload_n 0, 1) := by decide +kernel
theorem dX10_setBound_89 : decode cX10_setBound 89 = .ok (.invokevirtual 55, 3) := by decide +kernel
theorem dX10_setBound_92 : decode cX10_setBound 92 = .ok (.aload_n 0, 1) := by decide +kernel
theorem dX10_setBound_93 : decode cX10_setBound 93 = .ok (.getfield 9, 3) := by decide +kernel
theorem dX10_setBound_96 : decode cX10_setBound 96 = .ok (.bipush 8, 2) := by decide +kernel
theorem dX10_setBound_98 : decode cX10_setBound 98 = .ok (.iload_n 1, 1) := by decide +kernel
theorem dX10_setBound_99 : decode cX10_setBound 99 = .ok (.iadd, 1) := by decide +kernel
theorem dX10_setBound_100 : decode cX10_setBound 100 = .ok (.iaload, 1) := by decide +kernel
theorem dX10_setBound_101 : decode cX10_setBound 101 = .ok (.istore_n 3, 1) := by decide +kernel
theorem dX10_setBound_102 : decode cX10_setBound 102 = .ok (.aload_n 0, 1) := by decide +kernel
theorem dX10_setBound_103 : decode cX10_setBound 103 = .ok (.getfield 9, 3) := by decide +kernel
theorem dX10_setBound_106 : decode cX10_setBound 106 = .ok (.bipush 8, 2) := by decide +kernel
theorem dX10_setBound_108 : decode cX10_setBound 108 = .ok (.iload_n 1, 1) := by decide +kernel
theorem dX10_setBound_109 : decode cX10_setBound 109 = .ok (.iadd, 1) := by decide +kernel
theorem dX10_setBound_110 : decode cX10_setBound 110 = .ok (.iload_n 2, 1) := by decide +kernel
theorem dX10_setBound_111 : decode cX10_setBound 111 = .ok (.iastore, 1) := by decide +kernel
theorem dX10_setBound_112 : decode cX10_setBound 112 = .ok (.iload_n 3, 1) := by decide +kernel
theorem dX10_setBound_113 : decode cX10_setBound 113 = .ok (.ireturn, 1) := by decide +kernel
theorem dX10_boundOf_0 : decode cX10_boundOf 0 = .ok (.aload_n 0, 1) := by decide +kernel
theorem dX10_boundOf_1 : decode cX10_boundOf 1 = .ok (.iload_n 1, 1) := by decide +kernel
theorem dX10_boundOf_2 : decode cX10_boundOf 2 = .ok (.iconst 2, 1) := by decide +kernel
theorem dX10_boundOf_3 : decode cX10_boundOf 3 = .ok (.iconst 5, 1) := by decide +kernel
theorem dX10_boundOf_4 : decode cX10_boundOf 4 = .ok (.invokestatic 47, 3) := by decide +kernel
theorem dX10_boundOf_7 : decode cX10_boundOf 7 = .ok (.ifCond .ne 7, 3) := by decide +kernel
theorem dX10_boundOf_10 : decode cX10_boundOf 10 = .ok (.iconst 1, 1) := by decide +kernel
theorem dX10_boundOf_11 : decode cX10_boundOf 11 = .ok (.goto 4, 3) := by decide +kernel
theorem dX10_boundOf_14 : decode cX10_boundOf 14 = .ok (.iconst 0, 1) := by decide +kernel
theorem dX10_boundOf_15 : decode cX10_boundOf 15 = .ok (.iconst 1, 1) := by decide +kernel
theorem dX10_boundOf_16 : decode cX10_boundOf 16 = .ok (.invokevirtual 51, 3) := by decide +kernel
theorem dX10_boundOf_19 : decode cX10_boundOf 19 = .ok (.ifCond .eq 7, 3) := by decide +kernel
theorem dX10_boundOf_22 : decode cX10_boundOf 22 = .ok (.iconst 0, 1) := by decide +kernel
theorem dX10_boundOf_23 : decode cX10_boundOf 23 = .ok (.goto 12, 3) := by decide +kernel
theorem dX10_boundOf_26 : decode cX10_boundOf 26 = .ok (.aload_n 0, 1) := by decide +kernel
theorem dX10_boundOf_27 : decode cX10_boundOf 27 = .ok (.getfield 9, 3) := by decide +kernel
theorem dX10_boundOf_30 : decode cX10_boundOf 30 = .ok (.bipush 8, 2) := by decide +kernel
theorem dX10_boundOf_32 : decode cX10_boundOf 32 = .ok (.iload_n 1, 1) := by decide +kernel
theorem dX10_boundOf_33 : decode cX10_boundOf 33 = .ok (.iadd, 1) := by decide +kernel
theorem dX10_boundOf_34 : decode cX10_boundOf 34 = .ok (.iaload, 1) := by decide +kernel
theorem dX10_boundOf_35 : decode cX10_boundOf 35 = .ok (.ireturn, 1) := by decide +kernel
theorem dX10_setWeight_0 : decode cX10_setWeight 0 = .ok (.aload_n 0, 1) := by decide +kernel
theorem dX10_setWeight_1 : decode cX10_setWeight 1 = .ok (.iload_n 1, 1) := by decide +kernel
theorem dX10_setWeight_2 : decode cX10_setWeight 2 = .ok (.iconst 1, 1) := by decide +kernel
theorem dX10_setWeight_3 : decode cX10_setWeight 3 = .ok (.iconst 5, 1) := by decide +kernel
theorem dX10_setWeight_4 : decode cX10_setWeight 4 = .ok (.invokestatic 47, 3) := by decide +kernel
theorem dX10_setWeight_7 : decode cX10_setWeight 7 = .ok (.ifCond .eq 13, 3) := by decide +kernel
theorem dX10_setWeight_10 : decode cX10_setWeight 10 = .ok (.iload_n 2, 1) := by decide +kernel
theorem dX10_setWeight_11 : decode cX10_setWeight 11 = .ok (.iconst 0, 1) := by decide +kernel
theorem dX10_setWeight_12 : decode cX10_setWeight 12 = .ok (.bipush 100, 2) := by decide +kernel
theorem dX10_setWeight_14 : decode cX10_setWeight 14 = .ok (.invokestatic 47, 3) := by decide +kernel
theorem dX10_setWeight_17 : decode cX10_setWeight 17 = .ok (.ifCond .ne 7, 3) := by decide +kernel
theorem dX10_setWeight_20 : decode cX10_setWeight 20 = .ok (.iconst 1, 1) := by decide +kernel
theorem dX10_setWeight_21 : decode cX10_setWeight 21 = .ok (.goto 4, 3) := by decide +kernel
theorem dX10_setWeight_24 : decode cX10_setWeight 24 = .ok (.iconst 0, 1) := by decide +kernel
theorem dX10_setWeight_25 : decode cX10_setWeight 25 = .ok (.iconst 1, 1) := by decide +kernel
theorem dX10_setWeight_26 : decode cX10_setWeight 26 = .ok (.invokevirtual 51, 3) := by decide +kernel
theorem dX10_setWeight_29 : decode cX10_setWeight 29 = .ok (.ifCond .eq 5, 3) := by decide +kernel
theorem dX10_setWeight_32 : decode cX10_setWeight 32 = .ok (.iconst 0, 1) := by decide +kernel
theorem dX10_setWeight_33 : decode cX10_setWeight 33 = .ok (.ireturn, 1) := by decide +kernel
theorem dX10_setWeight_34 : decode cX10_setWeight 34 = .ok (.aload_n 0, 1) := by decide +kernel
theorem dX10_setWeight_35 : decode cX10_setWeight 35 = .ok (.invokevirtual 55, 3) := by decide +kernel
theorem dX10_setWeight_38 : decode cX10_setWeight 38 = .ok (.aload_n 0, 1) := by decide +kernel
theorem dX10_setWeight_39 : decode cX10_setWeight 39 = .ok (.getfield 9, 3) := by decide +kernel
theorem dX10_setWeight_42 : decode cX10_setWeight 42 = .ok (.bipush 14, 2) := by decide +kernel
theorem dX10_setWeight_44 : decode cX10_setWeight 44 = .ok (.iload_n 1, 1) := by decide +kernel
theorem dX10_setWeight_45 : decode cX10_setWeight 45 = .ok (.iadd, 1) := by decide +kernel
theorem dX10_setWeight_46 : decode cX10_setWeight 46 = .ok (.iaload, 1) := by decide +kernel
theorem dX10_setWeight_47 : decode cX10_setWeight 47 = .ok (.istore_n 3, 1) := by decide +kernel
theorem dX10_setWeight_48 : decode cX10_setWeight 48 = .ok (.aload_n 0, 1) := by decide +kernel
theorem dX10_setWeight_49 : decode cX10_setWeight 49 = .ok (.getfield 9, 3) := by decide +kernel
theorem dX10_setWeight_52 : decode cX10_setWeight 52 = .ok (.bipush 14, 2) := by decide +kernel
theorem dX10_setWeight_54 : decode cX10_setWeight 54 = .ok (.iload_n 1, 1) := by decide +kernel
theorem dX10_setWeight_55 : decode cX10_setWeight 55 = .ok (.iadd, 1) := by decide +kernel
theorem dX10_setWeight_56 : decode cX10_setWeight 56 = .ok (.iload_n 2, 1) := by decide +kernel
theorem dX10_setWeight_57 : decode cX10_setWeight 57 = .ok (.iastore, 1) := by decide +kernel
theorem dX10_setWeight_58 : decode cX10_setWeight 58 = .ok (.iload_n 3, 1) := by decide +kernel
theorem dX10_setWeight_59 : decode cX10_setWeight 59 = .ok (.ireturn, 1) := by decide +kernel
theorem dX10_weightOf_0 : decode cX10_weightOf 0 = .ok (.aload_n 0, 1) := by decide +kernel
theorem dX10_weightOf_1 : decode cX10_weightOf 1 = .ok (.iload_n 1, 1) := by decide +kernel
theorem dX10_weightOf_2 : decode cX10_weightOf 2 = .ok (.iconst 1, 1) := by decide +kernel
theorem dX10_weightOf_3 : decode cX10_weightOf 3 = .ok (.iconst 5, 1) := by decide +kernel
theorem dX10_weightOf_4 : decode cX10_weightOf 4 = .ok (.invokestatic 47, 3) := by decide +kernel
theorem dX10_weightOf_7 : decode cX10_weightOf 7 = .ok (.ifCond .ne 7, 3) := by decide +kernel
theorem dX10_weightOf_10 : decode cX10_weightOf 10 = .ok (.iconst 1, 1) := by decide +kernel
theorem dX10_weightOf_11 : decode cX10_weightOf 11 = .ok (.goto 4, 3) := by decide +kernel
theorem dX10_weightOf_14 : decode cX10_weightOf 14 = .ok (.iconst 0, 1) := by decide +kernel
theorem dX10_weightOf_15 : decode cX10_weightOf 15 = .ok (.iconst 1, 1) := by decide +kernel
theorem dX10_weightOf_16 : decode cX10_weightOf 16 = .ok (.invokevirtual 51, 3) := by decide +kernel
theorem dX10_weightOf_19 : decode cX10_weightOf 19 = .ok (.ifCond .eq 7, 3) := by decide +kernel
theorem dX10_weightOf_22 : decode cX10_weightOf 22 = .ok (.iconst 0, 1) := by decide +kernel
theorem dX10_weightOf_23 : decode cX10_weightOf 23 = .ok (.goto 12, 3) := by decide +kernel
theorem dX10_weightOf_26 : decode cX10_weightOf 26 = .ok (.aload_n 0, 1) := by decide +kernel
theorem dX10_weightOf_27 : decode cX10_weightOf 27 = .ok (.getfield 9, 3) := by decide +kernel
theorem dX10_weightOf_30 : decode cX10_weightOf 30 = .ok (.bipush 14, 2) := by decide +kernel
theorem dX10_weightOf_32 : decode cX10_weightOf 32 = .ok (.iload_n 1, 1) := by decide +kernel
theorem dX10_weightOf_33 : decode cX10_weightOf 33 = .ok (.iadd, 1) := by decide +kernel
theorem dX10_weightOf_34 : decode cX10_weightOf 34 = .ok (.iaload, 1) := by decide +kernel
theorem dX10_weightOf_35 : decode cX10_weightOf 35 = .ok (.ireturn, 1) := by decide +kernel
theorem dX10_zone_0 : decode cX10_zone 0 = .ok (.bipush 100, 2) := by decide +kernel
theorem dX10_zone_2 : decode cX10_zone 2 = .ok (.iload_n 2, 1) := by decide +kernel
theorem dX10_zone_3 : decode cX10_zone 3 = .ok (.imul, 1) := by decide +kernel
theorem dX10_zone_4 : decode cX10_zone 4 = .ok (.aload_n 0, 1) := by decide +kernel
theorem dX10_zone_5 : decode cX10_zone 5 = .ok (.iload_n 1, 1) := by decide +kernel
theorem dX10_zone_6 : decode cX10_zone 6 = .ok (.invokevirtual 69, 3) := by decide +kernel
theorem dX10_zone_9 : decode cX10_zone 9 = .ok (.idiv, 1) := by decide +kernel
theorem dX10_zone_10 : decode cX10_zone 10 = .ok (.istore_n 3, 1) := by decide +kernel
theorem dX10_zone_11 : decode cX10_zone 11 = .ok (.iconst 1, 1) := by decide +kernel
theorem dX10_zone_12 : decode cX10_zone 12 = .ok (.istore 4, 2) := by decide +kernel
theorem dX10_zone_14 : decode cX10_zone 14 = .ok (.iconst 2, 1) := by decide +kernel
theorem dX10_zone_15 : decode cX10_zone 15 = .ok (.istore 5, 2) := by decide +kernel
theorem dX10_zone_17 : decode cX10_zone 17 = .ok (.iload 5, 2) := by decide +kernel
theorem dX10_zone_19 : decode cX10_zone 19 = .ok (.iconst 5, 1) := by decide +kernel
theorem dX10_zone_20 : decode cX10_zone 20 = .ok (.if_icmp .gt 32, 3) := by decide +kernel
theorem dX10_zone_23 : decode cX10_zone 23 = .ok (.aload_n 0, 1) := by decide +kernel
theorem dX10_zone_24 : decode cX10_zone 24 = .ok (.getfield 9, 3) := by decide +kernel
theorem dX10_zone_27 : decode cX10_zone 27 = .ok (.bipush 8, 2) := by decide +kernel
theorem dX10_zone_29 : decode cX10_zone 29 = .ok (.iload 5, 2) := by decide +kernel
theorem dX10_zone_31 : decode cX10_zone 31 = .ok (.iadd, 1) := by decide +kernel
theorem dX10_zone_32 : decode cX10_zone 32 = .ok (.iaload, 1) := by decide +kernel
theorem dX10_zone_33 : decode cX10_zone 33 = .ok (.iload_n 3, 1) := by decide +kernel
theorem dX10_zone_34 : decode cX10_zone 34 = .ok (.if_icmp .gt 8, 3) := by decide +kernel
theorem dX10_zone_37 : decode cX10_zone 37 = .ok (.iload 5, 2) := by decide +kernel
theorem dX10_zone_39 : decode cX10_zone 39 = .ok (.goto 5, 3) := by decide +kernel
theorem dX10_zone_42 : decode cX10_zone 42 = .ok (.iload 4, 2) := by decide +kernel
theorem dX10_zone_44 : decode cX10_zone 44 = .ok (.istore 4, 2) := by decide +kernel
theorem dX10_zone_46 : decode cX10_zone 46 = .ok (.iinc 5 1, 3) := by decide +kernel
theorem dX10_zone_49 : decode cX10_zone 49 = .ok (.goto (-32), 3) := by decide +kernel
theorem dX10_zone_52 : decode cX10_zone 52 = .ok (.iload 4, 2) := by decide +kernel
theorem dX10_zone_54 : decode cX10_zone 54 = .ok (.ireturn, 1) := by decide +kernel
theorem dX10_zoneOf_0 : decode cX10_zoneOf 0 = .ok (.aload_n 0, 1) := by decide +kernel
theorem dX10_zoneOf_1 : decode cX10_zoneOf 1 = .ok (.iload_n 1, 1) := by decide +kernel
theorem dX10_zoneOf_2 : decode cX10_zoneOf 2 = .ok (.iconst 0, 1) := by decide +kernel
theorem dX10_zoneOf_3 : decode cX10_zoneOf 3 = .ok (.sipush 199, 3) := by decide +kernel
theorem dX10_zoneOf_6 : decode cX10_zoneOf 6 = .ok (.invokestatic 47, 3) := by decide +kernel
theorem dX10_zoneOf_9 : decode cX10_zoneOf 9 = .ok (.ifCond .eq 14, 3) := by decide +kernel
theorem dX10_zoneOf_12 : decode cX10_zoneOf 12 = .ok (.iload_n 2, 1) := by decide +kernel
theorem dX10_zoneOf_13 : decode cX10_zoneOf 13 = .ok (.iconst 0, 1) := by decide +kernel
theorem dX10_zoneOf_14 : decode cX10_zoneOf 14 = .ok (.sipush 500, 3) := by decide +kernel
theorem dX10_zoneOf_17 : decode cX10_zoneOf 17 = .ok (.invokestatic 47, 3) := by decide +kernel
theorem dX10_zoneOf_20 : decode cX10_zoneOf 20 = .ok (.ifCond .ne 7, 3) := by decide +kernel
theorem dX10_zoneOf_23 : decode cX10_zoneOf 23 = .ok (.iconst 1, 1) := by decide +kernel
theorem dX10_zoneOf_24 : decode cX10_zoneOf 24 = .ok (.goto 4, 3) := by decide +kernel
theorem dX10_zoneOf_27 : decode cX10_zoneOf 27 = .ok (.iconst 0, 1) := by decide +kernel
theorem dX10_zoneOf_28 : decode cX10_zoneOf 28 = .ok (.iconst 1, 1) := by decide +kernel
theorem dX10_zoneOf_29 : decode cX10_zoneOf 29 = .ok (.invokevirtual 51, 3) := by decide +kernel
theorem dX10_zoneOf_32 : decode cX10_zoneOf 32 = .ok (.ifCond .eq 7, 3) := by decide +kernel
theorem dX10_zoneOf_35 : decode cX10_zoneOf 35 = .ok (.iconst 0, 1) := by decide +kernel
theorem dX10_zoneOf_36 : decode cX10_zoneOf 36 = .ok (.goto 9, 3) := by decide +kernel
theorem dX10_zoneOf_39 : decode cX10_zoneOf 39 = .ok (.aload_n 0, 1) := by decide +kernel
theorem dX10_zoneOf_40 : decode cX10_zoneOf 40 = .ok (.iload_n 1, 1) := by decide +kernel
theorem dX10_zoneOf_41 : decode cX10_zoneOf 41 = .ok (.iload_n 2, 1) := by decide +kernel
theorem dX10_zoneOf_42 : decode cX10_zoneOf 42 = .ok (.invokevirtual 72, 3) := by decide +kernel
theorem dX10_zoneOf_45 : decode cX10_zoneOf 45 = .ok (.ireturn, 1) := by decide +kernel
theorem dX10_at_0 : decode cX10_at 0 = .ok (.bipush 70, 2) := by decide +kernel
theorem dX10_at_2 : decode cX10_at 2 = .ok (.bipush 19, 2) := by decide +kernel
theorem dX10_at_4 : decode cX10_at 4 = .ok (.iload_n 1, 1) := by decide +kernel
theorem dX10_at_5 : decode cX10_at 5 = .ok (.imul, 1) := by decide +kernel
theorem dX10_at_6 : decode cX10_at 6 = .ok (.iadd, 1) := by decide +kernel
theorem dX10_at_7 : decode cX10_at 7 = .ok (.ireturn, 1) := by decide +kernel
theorem dX10_place_0 : decode cX10_place 0 = .ok (.iconst (-1), 1) := by decide +kernel
theorem dX10_place_1 : decode cX10_place 1 = .ok (.istore_n 2, 1) := by decide +kernel
theorem dX10_place_2 : decode cX10_place 2 = .ok (.iconst 0, 1) := by decide +kernel
theorem dX10_place_3 : decode cX10_place 3 = .ok (.istore_n 3, 1) := by decide +kernel
theorem dX10_place_4 : decode cX10_place 4 = .ok (.iload_n 3, 1) := by decide +kernel
theorem dX10_place_5 : decode cX10_place 5 = .ok (.aload_n 0, 1) := by decide +kernel
theorem dX10_place_6 : decode cX10_place 6 = .ok (.getfield 9, 3) := by decide +kernel
theorem dX10_place_9 : decode cX10_place 9 = .ok (.iconst 2, 1) := by decide +kernel
theorem dX10_place_10 : decode cX10_place 10 = .ok (.iaload, 1) := by decide +kernel
theorem dX10_place_11 : decode cX10_place 11 = .ok (.if_icmp .ge 29, 3) := by decide +kernel
theorem dX10_place_14 : decode cX10_place 14 = .ok (.aload_n 0, 1) := by decide +kernel
theorem dX10_place_15 : decode cX10_place 15 = .ok (.getfield 9, 3) := by decide +kernel
theorem dX10_place_18 : decode cX10_place 18 = .ok (.aload_n 0, 1) := by decide +kernel
theorem dX10_place_19 : decode cX10_place 19 = .ok (.iload_n 3, 1) := by decide +kernel
theorem dX10_place_20 : decode cX10_place 20 = .ok (.invokevirtual 75, 3) := by decide +kernel
theorem dX10_place_23 : decode cX10_place 23 = .ok (.iaload, 1) := by decide +kernel
theorem dX10_place_24 : decode cX10_place 24 = .ok (.iload_n 1, 1) := by decide +kernel
theorem dX10_place_25 : decode cX10_place 25 = .ok (.if_icmp .ne 7, 3) := by decide +kernel
theorem dX10_place_28 : decode cX10_place 28 = .ok (.iload_n 3, 1) := by decide +kernel
theorem dX10_place_29 : decode cX10_place 29 = .ok (.goto 4, 3) := by decide +kernel
theorem dX10_place_32 : decode cX10_place 32 = .ok (.iload_n 2, 1) := by decide +kernel
theorem dX10_place_33 : decode cX10_place 33 = .ok (.istore_n 2, 1) := by decide +kernel
theorem dX10_place_34 : decode cX10_place 34 = .ok (.iinc 3 1, 3) := by decide +kernel
theorem dX10_place_37 : decode cX10_place 37 = .ok (.goto (-33), 3) := by decide +kernel
theorem dX10_place_40 : decode cX10_place 40 = .ok (.iload_n 2, 1) := by decide +kernel
theorem dX10_place_41 : decode cX10_place 41 = .ok (.ireturn, 1) := by decide +kernel
theorem dX10_minutes_0 : decode cX10_minutes 0 = .ok (.iconst 0, 1) := by decide +kernel
theorem dX10_minutes_1 : decode cX10_minutes 1 = .ok (.istore_n 2, 1) := by decide +kernel
theorem dX10_minutes_2 : decode cX10_minutes 2 = .ok (.iconst 0, 1) := by decide +kernel
theorem dX10_minutes_3 : decode cX10_minutes 3 = .ok (.istore_n 3, 1) := by decide +kernel
theorem dX10_minutes_4 : decode cX10_minutes 4 = .ok (.iload_n 3, 1) := by decide +kernel
theorem dX10_minutes_5 : decode cX10_minutes 5 = .ok (.aload_n 0, 1) := by decide +kernel
theorem dX10_minutes_6 : decode cX10_minutes 6 = .ok (.getfield 9, 3) := by decide +kernel
theorem dX10_minutes_9 : decode cX10_minutes 9 = .ok (.aload_n 0, 1) := by decide +kernel
theorem dX10_minutes_10 : decode cX10_minutes 10 = .ok (.iload_n 1, 1) := by decide +kernel
theorem dX10_minutes_11 : decode cX10_minutes 11 = .ok (.invokevirtual 75, 3) := by decide +kernel
theorem dX10_minutes_14 : decode cX10_minutes 14 = .ok (.iconst 2, 1) := by decide +kernel
theorem dX10_minutes_15 : decode cX10_minutes 15 = .ok (.iadd, 1) := by decide +kernel
theorem dX10_minutes_16 : decode cX10_minutes 16 = .ok (.iaload, 1) := by decide +kernel
theorem dX10_minutes_17 : decode cX10_minutes 17 = .ok (.if_icmp .ge 26, 3) := by decide +kernel
theorem dX10_minutes_20 : decode cX10_minutes 20 = .ok (.iload_n 2, 1) := by decide +kernel
theorem dX10_minutes_21 : decode cX10_minutes 21 = .ok (.aload_n 0, 1) := by decide +kernel
theorem dX10_minutes_22 : decode cX10_minutes 22 = .ok (.getfield 9, 3) := by decide +kernel
theorem dX10_minutes_25 : decode cX10_minutes 25 = .ok (.aload_n 0, 1) := by decide +kernel
theorem dX10_minutes_26 : decode cX10_minutes 26 = .ok (.iload_n 1, 1) := by decide +kernel
theorem dX10_minutes_27 : decode cX10_minutes 27 = .ok (.invokevirtual 75, 3) := by decide +kernel
theorem dX10_minutes_30 : decode cX10_minutes 30 = .ok (.iconst 3, 1) := by decide +kernel
theorem dX10_minutes_31 : decode cX10_minutes 31 = .ok (.iadd, 1) := by decide +kernel
theorem dX10_minutes_32 : decode cX10_minutes 32 = .ok (.iload_n 3, 1) := by decide +kernel
theorem dX10_minutes_33 : decode cX10_minutes 33 = .ok (.iadd, 1) := by decide +kernel
theorem dX10_minutes_34 : decode cX10_minutes 34 = .ok (.iaload, 1) := by decide +kernel
theorem dX10_minutes_35 : decode cX10_minutes 35 = .ok (.iadd, 1) := by decide +kernel
theorem dX10_minutes_36 : decode cX10_minutes 36 = .ok (.istore_n 2, 1) := by decide +kernel
theorem dX10_minutes_37 : decode cX10_minutes 37 = .ok (.iinc 3 1, 3) := by decide +kernel
theorem dX10_minutes_40 : decode cX10_minutes 40 = .ok (.goto (-36), 3) := by decide +kernel
theorem dX10_minutes_43 : decode cX10_minutes 43 = .ok (.iload_n 2, 1) := by decide +kernel
theorem dX10_minutes_44 : decode cX10_minutes 44 = .ok (.ireturn, 1) := by decide +kernel
theorem dX10_zones_0 : decode cX10_zones 0 = .ok (.iconst 0, 1) := by decide +kernel
theorem dX10_zones_1 : decode cX10_zones 1 = .ok (.istore_n 2, 1) := by decide +kernel
theorem dX10_zones_2 : decode cX10_zones 2 = .ok (.iload_n 2, 1) := by decide +kernel
theorem dX10_zones_3 : decode cX10_zones 3 = .ok (.aload_n 0, 1) := by decide +kernel
theorem dX10_zones_4 : decode cX10_zones 4 = .ok (.getfield 9, 3) := by decide +kernel
theorem dX10_zones_7 : decode cX10_zones 7 = .ok (.aload_n 0, 1) := by decide +kernel
theorem dX10_zones_8 : decode cX10_zones 8 = .ok (.iload_n 1, 1) := by decide +kernel
theorem dX10_zones_9 : decode cX10_zones 9 = .ok (.invokevirtual 75, 3) := by decide +kernel
theorem dX10_zones_12 : decode cX10_zones 12 = .ok (.iconst 2, 1) := by decide +kernel
theorem dX10_zones_13 : decode cX10_zones 13 = .ok (.iadd, 1) := by decide +kernel
theorem dX10_zones_14 : decode cX10_zones 14 = .ok (.iaload, 1) := by decide +kernel
theorem dX10_zones_15 : decode cX10_zones 15 = .ok (.if_icmp .ge 64, 3) := by decide +kernel
theorem dX10_zones_18 : decode cX10_zones 18 = .ok (.aload_n 0, 1) := by decide +kernel
theorem dX10_zones_19 : decode cX10_zones 19 = .ok (.getfield 24, 3) := by decide +kernel
theorem dX10_zones_22 : decode cX10_zones 22 = .ok (.aload_n 0, 1) := by decide +kernel
theorem dX10_zones_23 : decode cX10_zones 23 = .ok (.aload_n 0, 1) := by decide +kernel
theorem dX10_zones_24 : decode cX10_zones 24 = .ok (.getfield 9, 3) := by decide +kernel
theorem dX10_zones_27 : decode cX10_zones 27 = .ok (.aload_n 0, 1) := by decide +kernel
theorem dX10_zones_28 : decode cX10_zones 28 = .ok (.iload_n 1, 1) := by decide +kernel
theorem dX10_zones_29 : decode cX10_zones 29 = .ok (.invokevirtual 75, 3) := by decide +kernel
theorem dX10_zones_32 : decode cX10_zones 32 = .ok (.iconst 1, 1) := by decide +kernel
theorem dX10_zones_33 : decode cX10_zones 33 = .ok (.iadd, 1) := by decide +kernel
theorem dX10_zones_34 : decode cX10_zones 34 = .ok (.iaload, 1) := by decide +kernel
theorem dX10_zones_35 : decode cX10_zones 35 = .ok (.aload_n 0, 1) := by decide +kernel
theorem dX10_zones_36 : decode cX10_zones 36 = .ok (.getfield 9, 3) := by decide +kernel
theorem dX10_zones_39 : decode cX10_zones 39 = .ok (.aload_n 0, 1) := by decide +kernel
theorem dX10_zones_40 : decode cX10_zones 40 = .ok (.iload_n 1, 1) := by decide +kernel
theorem dX10_zones_41 : decode cX10_zones 41 = .ok (.invokevirtual 75, 3) := by decide +kernel
theorem dX10_zones_44 : decode cX10_zones 44 = .ok (.iconst 3, 1) := by decide +kernel
theorem dX10_zones_45 : decode cX10_zones 45 = .ok (.iadd, 1) := by decide +kernel
theorem dX10_zones_46 : decode cX10_zones 46 = .ok (.bipush 8, 2) := by decide +kernel
theorem dX10_zones_48 : decode cX10_zones 48 = .ok (.iadd, 1) := by decide +kernel
theorem dX10_zones_49 : decode cX10_zones 49 = .ok (.iload_n 2, 1) := by decide +kernel
theorem dX10_zones_50 : decode cX10_zones 50 = .ok (.iadd, 1) := by decide +kernel
theorem dX10_zones_51 : decode cX10_zones 51 = .ok (.iaload, 1) := by decide +kernel
theorem dX10_zones_52 : decode cX10_zones 52 = .ok (.invokevirtual 72, 3) := by decide +kernel
theorem dX10_zones_55 : decode cX10_zones 55 = .ok (.dup2, 1) := by decide +kernel
theorem dX10_zones_56 : decode cX10_zones 56 = .ok (.iaload, 1) := by decide +kernel
theorem dX10_zones_57 : decode cX10_zones 57 = .ok (.aload_n 0, 1) := by decide +kernel
theorem dX10_zones_58 : decode cX10_zones 58 = .ok (.getfield 9, 3) := by decide +kernel
theorem dX10_zones_61 : decode cX10_zones 61 = .ok (.aload_n 0, 1) := by decide +kernel
theorem dX10_zones_62 : decode cX10_zones 62 = .ok (.iload_n 1, 1) := by decide +kernel
theorem dX10_zones_63 : decode cX10_zones 63 = .ok (.invokevirtual 75, 3) := by decide +kernel
theorem dX10_zones_66 : decode cX10_zones 66 = .ok (.iconst 3, 1) := by decide +kernel
theorem dX10_zones_67 : decode cX10_zones 67 = .ok (.iadd, 1) := by decide +kernel
theorem dX10_zones_68 : decode cX10_zones 68 = .ok (.iload_n 2, 1) := by decide +kernel
theorem dX10_zones_69 : decode cX10_zones 69 = .ok (.iadd, 1) := by decide +kernel
theorem dX10_zones_70 : decode cX10_zones 70 = .ok (.iaload, 1) := by decide +kernel
theorem dX10_zones_71 : decode cX10_zones 71 = .ok (.iadd, 1) := by decide +kernel
theorem dX10_zones_72 : decode cX10_zones 72 = .ok (.iastore, 1) := by decide +kernel
theorem dX10_zones_73 : decode cX10_zones 73 = .ok (.iinc 2 1, 3) := by decide +kernel
theorem dX10_zones_76 : decode cX10_zones 76 = .ok (.goto (-74), 3) := by decide +kernel
theorem dX10_zones_79 : decode cX10_zones 79 = .ok (.return_, 1) := by decide +kernel
theorem dX10_noZones_0 : decode cX10_noZones 0 = .ok (.iconst 0, 1) := by decide +kernel
theorem dX10_noZones_1 : decode cX10_noZones 1 = .ok (.istore_n 1, 1) := by decide +kernel
theorem dX10_noZones_2 : decode cX10_noZones 2 = .ok (.iload_n 1, 1) := by decide +kernel
theorem dX10_noZones_3 : decode cX10_noZones 3 = .ok (.bipush 6, 2) := by decide +kernel
theorem dX10_noZones_5 : decode cX10_noZones 5 = .ok (.if_icmp .ge 16, 3) := by decide +kernel
theorem dX10_noZones_8 : decode cX10_noZones 8 = .ok (.aload_n 0, 1) := by decide +kernel
theorem dX10_noZones_9 : decode cX10_noZones 9 = .ok (.getfield 24, 3) := by decide +kernel
theorem dX10_noZones_12 : decode cX10_noZones 12 = .ok (.iload_n 1, 1) := by decide +kernel
theorem dX10_noZones_13 : decode cX10_noZones 13 = .ok (.iconst 0, 1) := by decide +kernel
theorem dX10_noZones_14 : decode cX10_noZones 14 = .ok (.iastore, 1) := by decide +kernel
theorem dX10_noZones_15 : decode cX10_noZones 15 = .ok (.iinc 1 1, 3) := by decide +kernel
theorem dX10_noZones_18 : decode cX10_noZones 18 = .ok (.goto (-16), 3) := by decide +kernel
theorem dX10_noZones_21 : decode cX10_noZones 21 = .ok (.return_, 1) := by decide +kernel
theorem dX10_loadAt_0 : decode cX10_loadAt 0 = .ok (.aload_n 0, 1) := by decide +kernel
theorem dX10_loadAt_1 : decode cX10_loadAt 1 = .ok (.invokevirtual 78, 3) := by decide +kernel
theorem dX10_loadAt_4 : decode cX10_loadAt 4 = .ok (.aload_n 0, 1) := by decide +kernel
theorem dX10_loadAt_5 : decode cX10_loadAt 5 = .ok (.iload_n 1, 1) := by decide +kernel
theorem dX10_loadAt_6 : decode cX10_loadAt 6 = .ok (.invokevirtual 81, 3) := by decide +kernel
theorem dX10_loadAt_9 : decode cX10_loadAt 9 = .ok (.iconst 0, 1) := by decide +kernel
theorem dX10_loadAt_10 : decode cX10_loadAt 10 = .ok (.istore_n 2, 1) := by decide +kernel
theorem dX10_loadAt_11 : decode cX10_loadAt 11 = .ok (.iconst 1, 1) := by decide +kernel
theorem dX10_loadAt_12 : decode cX10_loadAt 12 = .ok (.istore_n 3, 1) := by decide +kernel
theorem dX10_loadAt_13 : decode cX10_loadAt 13 = .ok (.iload_n 3, 1) := by decide +kernel
theorem dX10_loadAt_14 : decode cX10_loadAt 14 = .ok (.iconst 5, 1) := by decide +kernel
theorem dX10_loadAt_15 : decode cX10_loadAt 15 = .ok (.if_icmp .gt 28, 3) := by decide +kernel
theorem dX10_loadAt_18 : decode cX10_loadAt 18 = .ok (.iload_n 2, 1) := by decide +kernel
theorem dX10_loadAt_19 : decode cX10_loadAt 19 = .ok (.aload_n 0, 1) := by decide +kernel
theorem dX10_loadAt_20 : decode cX10_loadAt 20 = .ok (.getfield 24, 3) := by decide +kernel
theorem dX10_loadAt_23 : decode cX10_loadAt 23 = .ok (.iload_n 3, 1) := by decide +kernel
theorem dX10_loadAt_24 : decode cX10_loadAt 24 = .ok (.iaload, 1) := by decide +kernel
theorem dX10_loadAt_25 : decode cX10_loadAt 25 = .ok (.aload_n 0, 1) := by decide +kernel
theorem dX10_loadAt_26 : decode cX10_loadAt 26 = .ok (.getfield 9, 3) := by decide +kernel
theorem dX10_loadAt_29 : decode cX10_loadAt 29 = .ok (.bipush 14, 2) := by decide +kernel
theorem dX10_loadAt_31 : decode cX10_loadAt 31 = .ok (.iload_n 3, 1) := by decide +kernel
theorem dX10_loadAt_32 : decode cX10_loadAt 32 = .ok (.iadd, 1) := by decide +kernel
theorem dX10_loadAt_33 : decode cX10_loadAt 33 = .ok (.iaload, 1) := by decide +kernel
theorem dX10_loadAt_34 : decode cX10_loadAt 34 = .ok (.imul, 1) := by decide +kernel
theorem dX10_loadAt_35 : decode cX10_loadAt 35 = .ok (.iadd, 1) := by decide +kernel
theorem dX10_loadAt_36 : decode cX10_loadAt 36 = .ok (.istore_n 2, 1) := by decide +kernel
theorem dX10_loadAt_37 : decode cX10_loadAt 37 = .ok (.iinc 3 1, 3) := by decide +kernel
theorem dX10_loadAt_40 : decode cX10_loadAt 40 = .ok (.goto (-27), 3) := by decide +kernel
theorem dX10_loadAt_43 : decode cX10_loadAt 43 = .ok (.iload_n 2, 1) := by decide +kernel
theorem dX10_loadAt_44 : decode cX10_loadAt 44 = .ok (.ireturn, 1) := by decide +kernel
theorem dX10_addSession_0 : decode cX10_addSession 0 = .ok (.aload_n 0, 1) := by decide +kernel
theorem dX10_addSession_1 : decode cX10_addSession 1 = .ok (.aload_n 0, 1) := by decide +kernel
theorem dX10_addSession_2 : decode cX10_addSession 2 = .ok (.iload_n 1, 1) := by decide +kernel
theorem dX10_addSession_3 : decode cX10_addSession 3 = .ok (.invokevirtual 58, 3) := by decide +kernel
theorem dX10_addSession_6 : decode cX10_addSession 6 = .ok (.iconst 1, 1) := by decide +kernel
theorem dX10_addSession_7 : decode cX10_addSession 7 = .ok (.invokevirtual 51, 3) := by decide +kernel
theorem dX10_addSession_10 : decode cX10_addSession 10 = .ok (.ifCond .ne 27, 3) := by decide +kernel
theorem dX10_addSession_13 : decode cX10_addSession 13 = .ok (.aload_n 0, 1) := by decide +kernel
theorem dX10_addSession_14 : decode cX10_addSession 14 = .ok (.aload_n 0, 1) := by decide +kernel
theorem dX10_addSession_15 : decode cX10_addSession 15 = .ok (.getfield 9, 3) := by decide +kernel
theorem dX10_addSession_18 : decode cX10_addSession 18 = .ok (.iconst 2, 1) := by decide +kernel
theorem dX10_addSession_19 : decode cX10_addSession 19 = .ok (.iaload, 1) := by decide +kernel
theorem dX10_addSession_20 : decode cX10_addSession 20 = .ok (.bipush 40, 2) := by decide +kernel
theorem dX10_addSession_22 : decode cX10_addSession 22 = .ok (.if_icmp .ne 7, 3) := by decide +kernel
theorem dX10_addSession_25 : decode cX10_addSession 25 = .ok (.iconst 1, 1) := by decide +kernel
theorem dX10_addSession_26 : decode cX10_addSession 26 = .ok (.goto 4, 3) := by decide +kernel
theorem dX10_addSession_29 : decode cX10_addSession 29 = .ok (.iconst 0, 1) := by decide +kernel
theorem dX10_addSession_30 : decode cX10_addSession 30 = .ok (.iconst 2, 1) := by decide +kernel
theorem dX10_addSession_31 : decode cX10_addSession 31 = .ok (.invokevirtual 51, 3) := by decide +kernel
theorem dX10_addSession_34 : decode cX10_addSession 34 = .ok (.ifCond .eq 5, 3) := by decide +kernel
theorem dX10_addSession_37 : decode cX10_addSession 37 = .ok (.iconst 0, 1) := by decide +kernel
theorem dX10_addSession_38 : decode cX10_addSession 38 = .ok (.ireturn, 1) := by decide +kernel
theorem dX10_addSession_39 : decode cX10_addSession 39 = .ok (.aload_n 0, 1) := by decide +kernel
theorem dX10_addSession_40 : decode cX10_addSession 40 = .ok (.invokevirtual 55, 3) := by decide +kernel
theorem dX10_addSession_43 : decode cX10_addSession 43 = .ok (.aload_n 0, 1) := by decide +kernel
theorem dX10_addSession_44 : decode cX10_addSession 44 = .ok (.aload_n 0, 1) := by decide +kernel
theorem dX10_addSession_45 : decode cX10_addSession 45 = .ok (.getfield 9, 3) := by decide +kernel
theorem dX10_addSession_48 : decode cX10_addSession 48 = .ok (.iconst 2, 1) := by decide +kernel
theorem dX10_addSession_49 : decode cX10_addSession 49 = .ok (.iaload, 1) := by decide +kernel
theorem dX10_addSession_50 : decode cX10_addSession 50 = .ok (.invokevirtual 75, 3) := by decide +kernel
theorem dX10_addSession_53 : decode cX10_addSession 53 = .ok (.istore_n 2, 1) := by decide +kernel
theorem dX10_addSession_54 : decode cX10_addSession 54 = .ok (.aload_n 0, 1) := by decide +kernel
theorem dX10_addSession_55 : decode cX10_addSession 55 = .ok (.getfield 9, 3) := by decide +kernel
theorem dX10_addSession_58 : decode cX10_addSession 58 = .ok (.iload_n 2, 1) := by decide +kernel
theorem dX10_addSession_59 : decode cX10_addSession 59 = .ok (.aload_n 0, 1) := by decide +kernel
theorem dX10_addSession_60 : decode cX10_addSession 60 = .ok (.getfield 9, 3) := by decide +kernel
theorem dX10_addSession_63 : decode cX10_addSession 63 = .ok (.iconst 1, 1) := by decide +kernel
theorem dX10_addSession_64 : decode cX10_addSession 64 = .ok (.iaload, 1) := by decide +kernel
theorem dX10_addSession_65 : decode cX10_addSession 65 = .ok (.iastore, 1) := by decide +kernel
theorem dX10_addSession_66 : decode cX10_addSession 66 = .ok (.aload_n 0, 1) := by decide +kernel
theorem dX10_addSession_67 : decode cX10_addSession 67 = .ok (.getfield 9, 3) := by decide +kernel
theorem dX10_addSession_70 : decode cX10_addSession 70 = .ok (.iload_n 2, 1) := by decide +kernel
theorem dX10_addSession_71 : decode cX10_addSession 71 = .ok (.iconst 1, 1) := by decide +kernel
theorem dX10_addSession_72 : decode cX10_addSession 72 = .ok (.iadd, 1) := by decide +kernel
theorem dX10_addSession_73 : decode cX10_addSession 73 = .ok (.iload_n 1, 1) := by decide +kernel
theorem dX10_addSession_74 : decode cX10_addSession 74 = .ok (.iastore, 1) := by decide +kernel
theorem dX10_addSession_75 : decode cX10_addSession 75 = .ok (.aload_n 0, 1) := by decide +kernel
theorem dX10_addSession_76 : decode cX10_addSession 76 = .ok (.getfield 9, 3) := by decide +kernel
theorem dX10_addSession_79 : decode cX10_addSession 79 = .ok (.iload_n 2, 1) := by decide +kernel
theorem dX10_addSession_80 : decode cX10_addSession 80 = .ok (.iconst 2, 1) := by decide +kernel
theorem dX10_addSession_81 : decode cX10_addSession 81 = .ok (.iadd, 1) := by decide +kernel
theorem dX10_addSession_82 : decode cX10_addSession 82 = .ok (.iconst 0, 1) := by decide +kernel
theorem dX10_addSession_83 : decode cX10_addSession 83 = .ok (.iastore, 1) := by decide +kernel
theorem dX10_addSession_84 : decode cX10_addSession 84 = .ok (.aload_n 0, 1) := by decide +kernel
theorem dX10_addSession_85 : decode cX10_addSession 85 = .ok (.getfield 9, 3) := by decide +kernel
theorem dX10_addSession_88 : decode cX10_addSession 88 = .ok (.iconst 2, 1) := by decide +kernel
theorem dX10_addSession_89 : decode cX10_addSession 89 = .ok (.dup2, 1) := by decide +kernel
theorem dX10_addSession_90 : decode cX10_addSession 90 = .ok (.iaload, 1) := by decide +kernel
theorem dX10_addSession_91 : decode cX10_addSession 91 = .ok (.iconst 1, 1) := by decide +kernel
theorem dX10_addSession_92 : decode cX10_addSession 92 = .ok (.iadd, 1) := by decide +kernel
theorem dX10_addSession_93 : decode cX10_addSession 93 = .ok (.iastore, 1) := by decide +kernel
theorem dX10_addSession_94 : decode cX10_addSession 94 = .ok (.aload_n 0, 1) := by decide +kernel
theorem dX10_addSession_95 : decode cX10_addSession 95 = .ok (.getfield 9, 3) := by decide +kernel
theorem dX10_addSession_98 : decode cX10_addSession 98 = .ok (.iconst 1, 1) := by decide +kernel
theorem dX10_addSession_99 : decode cX10_addSession 99 = .ok (.dup2, 1) := by decide +kernel
theorem dX10_addSession_100 : decode cX10_addSession 100 = .ok (.iaload, 1) := by decide +kernel
theorem dX10_addSession_101 : decode cX10_addSession 101 = .ok (.iconst 1, 1) := by decide +kernel
theorem dX10_addSession_102 : decode cX10_addSession 102 = .ok (.iadd, 1) := by decide +kernel
theorem dX10_addSession_103 : decode cX10_addSession 103 = .ok (.iastore, 1) := by decide +kernel
theorem dX10_addSession_104 : decode cX10_addSession 104 = .ok (.aload_n 0, 1) := by decide +kernel
theorem dX10_addSession_105 : decode cX10_addSession 105 = .ok (.getfield 9, 3) := by decide +kernel
theorem dX10_addSession_108 : decode cX10_addSession 108 = .ok (.iload_n 2, 1) := by decide +kernel
theorem dX10_addSession_109 : decode cX10_addSession 109 = .ok (.iaload, 1) := by decide +kernel
theorem dX10_addSession_110 : decode cX10_addSession 110 = .ok (.ireturn, 1) := by decide +kernel
theorem dX10_addPart_0 : decode cX10_addPart 0 = .ok (.aload_n 0, 1) := by decide +kernel
theorem dX10_addPart_1 : decode cX10_addPart 1 = .ok (.iload_n 1, 1) := by decide +kernel
theorem dX10_addPart_2 : decode cX10_addPart 2 = .ok (.invokevirtual 84, 3) := by decide +kernel
theorem dX10_addPart_5 : decode cX10_addPart 5 = .ok (.istore 4, 2) := by decide +kernel
theorem dX10_addPart_7 : decode cX10_addPart 7 = .ok (.aload_n 0, 1) := by decide +kernel
theorem dX10_addPart_8 : decode cX10_addPart 8 = .ok (.iload 4, 2) := by decide +kernel
theorem dX10_addPart_10 : decode cX10_addPart 10 = .ok (.ifCond .ge 7, 3) := by decide +kernel
theorem dX10_addPart_13 : decode cX10_addPart 13 = .ok (.iconst 1, 1) := by decide +kernel
theorem dX10_addPart_14 : decode cX10_addPart 14 = .ok (.goto 4, 3) := by decide +kernel
theorem dX10_addPart_17 : decode cX10_addPart 17 = .ok (.iconst 0, 1) := by decide +kernel
theorem dX10_addPart_18 : decode cX10_addPart 18 = .ok (.iconst 1, 1) := by decide +kernel
theorem dX10_addPart_19 : decode cX10_addPart 19 = .ok (.invokevirtual 51, 3) := by decide +kernel
theorem dX10_addPart_22 : decode cX10_addPart 22 = .ok (.ifCond .ne 82, 3) := by decide +kernel
theorem dX10_addPart_25 : decode cX10_addPart 25 = .ok (.aload_n 0, 1) := by decide +kernel
theorem dX10_addPart_26 : decode cX10_addPart 26 = .ok (.iload_n 2, 1) := by decide +kernel
theorem dX10_addPart_27 : decode cX10_addPart 27 = .ok (.iconst 1, 1) := by decide +kernel
theorem dX10_addPart_28 : decode cX10_addPart 28 = .ok (.bipush 120, 2) := by decide +kernel
theorem dX10_addPart_30 : decode cX10_addPart 30 = .ok (.invokestatic 47, 3) := by decide +kernel
theorem dX10_addPart_33 : decode cX10_addPart 33 = .ok (.ifCond .eq 14, 3) := by decide +kernel
theorem dX10_addPart_36 : decode cX10_addPart 36 = .ok (.iload_n 3, 1) := by decide +kernel
theorem dX10_addPart_37 : decode cX10_addPart 37 = .ok (.iconst 0, 1) := by decide +kernel
theorem dX10_addPart_38 : decode cX10_addPart 38 = .ok (.sipush 500, 3) := by decide +kernel
theorem dX10_addPart_41 : decode cX10_addPart 41 = .ok (.invokestatic 47, 3) := by decide +kernel
theorem dX10_addPart_44 : decode cX10_addPart 44 = .ok (.ifCond .ne 7, 3) := by decide +kernel
theorem dX10_addPart_47 : decode cX10_addPart 47 = .ok (.iconst 1, 1) := by decide +kernel
theorem dX10_addPart_48 : decode cX10_addPart 48 = .ok (.goto 4, 3) := by decide +kernel
theorem dX10_addPart_51 : decode cX10_addPart 51 = .ok (.iconst 0, 1) := by decide +kernel
theorem dX10_addPart_52 : decode cX10_addPart 52 = .ok (.iconst 2, 1) := by decide +kernel
theorem dX10_addPart_53 : decode cX10_addPart 53 = .ok (.invokevirtual 51, 3) := by decide +kernel
theorem dX10_addPart_56 : decode cX10_addPart 56 = .ok (.ifCond .ne 48, 3) := by decide +kernel
theorem dX10_addPart_59 : decode cX10_addPart 59 = .ok (.aload_n 0, 1) := by decide +kernel
theorem dX10_addPart_60 : decode cX10_addPart 60 = .ok (.aload_n 0, 1) := by decide +kernel
theorem dX10_addPart_61 : decode cX10_addPart 61 = .ok (.getfield 9, 3) := by decide +kernel
theorem dX10_addPart_64 : decode cX10_addPart 64 = .ok (.aload_n 0, 1) := by decide +kernel
theorem dX10_addPart_65 : decode cX10_addPart 65 = .ok (.iload 4, 2) := by decide +kernel
theorem dX10_addPart_67 : decode cX10_addPart 67 = .ok (.invokevirtual 75, 3) := by decide +kernel
theorem dX10_addPart_70 : decode cX10_addPart 70 = .ok (.iconst 2, 1) := by decide +kernel
theorem dX10_addPart_71 : decode cX10_addPart 71 = .ok (.iadd, 1) := by decide +kernel
theorem dX10_addPart_72 : decode cX10_addPart 72 = .ok (.iaload, 1) := by decide +kernel
theorem dX10_addPart_73 : decode cX10_addPart 73 = .ok (.bipush 8, 2) := by decide +kernel
theorem dX10_addPart_75 : decode cX10_addPart 75 = .ok (.if_icmp .eq 17, 3) := by decide +kernel
theorem dX10_addPart_78 : decode cX10_addPart 78 = .ok (.aload_n 0, 1) := by decide +kernel
theorem dX10_addPart_79 : decode cX10_addPart 79 = .ok (.iload 4, 2) := by decide +kernel
theorem dX10_addPart_81 : decode cX10_addPart 81 = .ok (.invokevirtual 87, 3) := by decide +kernel
theorem dX10_addPart_84 : decode cX10_addPart 84 = .ok (.iload_n 2, 1) := by decide +kernel
theorem dX10_addPart_85 : decode cX10_addPart 85 = .ok (.iadd, 1) := by decide +kernel
theorem dX10_addPart_86 : decode cX10_addPart 86 = .ok (.sipush 240, 3) := by decide +kernel
theorem dX10_addPart_89 : decode cX10_addPart 89 = .ok (.if_icmp .le 7, 3) := by decide +kernel
theorem dX10_addPart_92 : decode cX10_addPart 92 = .ok (.iconst 1, 1) := by decide +kernel
theorem dX10_addPart_93 : decode cX10_addPart 93 = .ok (.goto 4, 3) := by decide +kernel
theorem dX10_addPart_96 : decode cX10_addPart 96 = .ok (.iconst 0, 1) := by decide +kernel
theorem dX10_addPart_97 : decode cX10_addPart 97 = .ok (.iconst 3, 1) := by decide +kernel
theorem dX10_addPart_98 : decode cX10_addPart 98 = .ok (.invokevirtual 51, 3) := by decide +kernel
theorem dX10_addPart_101 : decode cX10_addPart 101 = .ok (.ifCond .eq 5, 3) := by decide +kernel
theorem dX10_addPart_104 : decode cX10_addPart 104 = .ok (.iconst 0, 1) := by decide +kernel
theorem dX10_addPart_105 : decode cX10_addPart 105 = .ok (.ireturn, 1) := by decide +kernel
theorem dX10_addPart_106 : decode cX10_addPart 106 = .ok (.aload_n 0, 1) := by decide +kernel
theorem dX10_addPart_107 : decode cX10_addPart 107 = .ok (.invokevirtual 55, 3) := by decide +kernel
theorem dX10_addPart_110 : decode cX10_addPart 110 = .ok (.aload_n 0, 1) := by decide +kernel
theorem dX10_addPart_111 : decode cX10_addPart 111 = .ok (.getfield 9, 3) := by decide +kernel
theorem dX10_addPart_114 : decode cX10_addPart 114 = .ok (.aload_n 0, 1) := by decide +kernel
theorem dX10_addPart_115 : decode cX10_addPart 115 = .ok (.iload 4, 2) := by decide +kernel
theorem dX10_addPart_117 : decode cX10_addPart 117 = .ok (.invokevirtual 75, 3) := by decide +kernel
theorem dX10_addPart_120 : decode cX10_addPart 120 = .ok (.iconst 2, 1) := by decide +kernel
theorem dX10_addPart_121 : decode cX10_addPart 121 = .ok (.iadd, 1) := by decide +kernel
theorem dX10_addPart_122 : decode cX10_addPart 122 = .ok (.iaload, 1) := by decide +kernel
theorem dX10_addPart_123 : decode cX10_addPart 123 = .ok (.istore 5, 2) := by decide +kernel
theorem dX10_addPart_125 : decode cX10_addPart 125 = .ok (.aload_n 0, 1) := by decide +kernel
theorem dX10_addPart_126 : decode cX10_addPart 126 = .ok (.getfield 9, 3) := by decide +kernel
theorem dX10_addPart_129 : decode cX10_addPart 129 = .ok (.aload_n 0, 1) := by decide +kernel
theorem dX10_addPart_130 : decode cX10_addPart 130 = .ok (.iload 4, 2) := by decide +kernel
theorem dX10_addPart_132 : decode cX10_addPart 132 = .ok (.invokevirtual 75, 3) := by decide +kernel
theorem dX10_addPart_135 : decode cX10_addPart 135 = .ok (.iconst 3, 1) := by decide +kernel
theorem dX10_addPart_136 : decode cX10_addPart 136 = .ok (.iadd, 1) := by decide +kernel
theorem dX10_addPart_137 : decode cX10_addPart 137 = .ok (.iload 5, 2) := by decide +kernel
theorem dX10_addPart_139 : decode cX10_addPart 139 = .ok (.iadd, 1) := by decide +kernel
theorem dX10_addPart_140 : decode cX10_addPart 140 = .ok (.iload_n 2, 1) := by decide +kernel
theorem dX10_addPart_141 : decode cX10_addPart 141 = .ok (.iastore, 1) := by decide +kernel
theorem dX10_addPart_142 : decode cX10_addPart 142 = .ok (.aload_n 0, 1) := by decide +kernel
theorem dX10_addPart_143 : decode cX10_addPart 143 = .ok (.getfield 9, 3) := by decide +kernel
theorem dX10_addPart_146 : decode cX10_addPart 146 = .ok (.aload_n 0, 1) := by decide +kernel
theorem dX10_addPart_147 : decode cX10_addPart 147 = .ok (.iload 4, 2) := by decide +kernel
theorem dX10_addPart_149 : decode cX10_addPart 149 = .ok (.invokevirtual 75, 3) := by decide +kernel
theorem dX10_addPart_152 : decode cX10_addPart 152 = .ok (.iconst 3, 1) := by decide +kernel
theorem dX10_addPart_153 : decode cX10_addPart 153 = .ok (.iadd, 1) := by decide +kernel
theorem dX10_addPart_154 : decode cX10_addPart 154 = .ok (.bipush 8, 2) := by decide +kernel
theorem dX10_addPart_156 : decode cX10_addPart 156 = .ok (.iadd, 1) := by decide +kernel
theorem dX10_addPart_157 : decode cX10_addPart 157 = .ok (.iload 5, 2) := by decide +kernel
theorem dX10_addPart_159 : decode cX10_addPart 159 = .ok (.iadd, 1) := by decide +kernel
theorem dX10_addPart_160 : decode cX10_addPart 160 = .ok (.iload_n 3, 1) := by decide +kernel
theorem dX10_addPart_161 : decode cX10_addPart 161 = .ok (.iastore, 1) := by decide +kernel
theorem dX10_addPart_162 : decode cX10_addPart 162 = .ok (.aload_n 0, 1) := by decide +kernel
theorem dX10_addPart_163 : decode cX10_addPart 163 = .ok (.getfield 9, 3) := by decide +kernel
theorem dX10_addPart_166 : decode cX10_addPart 166 = .ok (.aload_n 0, 1) := by decide +kernel
theorem dX10_addPart_167 : decode cX10_addPart 167 = .ok (.iload 4, 2) := by decide +kernel
theorem dX10_addPart_169 : decode cX10_addPart 169 = .ok (.invokevirtual 75, 3) := by decide +kernel
theorem dX10_addPart_172 : decode cX10_addPart 172 = .ok (.iconst 2, 1) := by decide +kernel
theorem dX10_addPart_173 : decode cX10_addPart 173 = .ok (.iadd, 1) := by decide +kernel
theorem dX10_addPart_174 : decode cX10_addPart 174 = .ok (.dup2, 1) := by decide +kernel
theorem dX10_addPart_175 : decode cX10_addPart 175 = .ok (.iaload, 1) := by decide +kernel
theorem dX10_addPart_176 : decode cX10_addPart 176 = .ok (.iconst 1, 1) := by decide +kernel
theorem dX10_addPart_177 : decode cX10_addPart 177 = .ok (.iadd, 1) := by decide +kernel
theorem dX10_addPart_178 : decode cX10_addPart 178 = .ok (.iastore, 1) := by decide +kernel
theorem dX10_addPart_179 : decode cX10_addPart 179 = .ok (.iload 5, 2) := by decide +kernel
theorem dX10_addPart_181 : decode cX10_addPart 181 = .ok (.iconst 1, 1) := by decide +kernel
theorem dX10_addPart_182 : decode cX10_addPart 182 = .ok (.iadd, 1) := by decide +kernel
theorem dX10_addPart_183 : decode cX10_addPart 183 = .ok (.ireturn, 1) := by decide +kernel
theorem dX10_isNoSession_0 : decode cX10_isNoSession 0 = .ok (.aload_n 0, 1) := by decide +kernel
theorem dX10_isNoSession_1 : decode cX10_isNoSession 1 = .ok (.aload_n 0, 1) := by decide +kernel
theorem dX10_isNoSession_2 : decode cX10_isNoSession 2 = .ok (.iload_n 1, 1) := by decide +kernel
theorem dX10_isNoSession_3 : decode cX10_isNoSession 3 = .ok (.invokevirtual 84, 3) := by decide +kernel
theorem dX10_isNoSession_6 : decode cX10_isNoSession 6 = .ok (.ifCond .ge 7, 3) := by decide +kernel
theorem dX10_isNoSession_9 : decode cX10_isNoSession 9 = .ok (.iconst 1, 1) := by decide +kernel
theorem dX10_isNoSession_10 : decode cX10_isNoSession 10 = .ok (.goto 4, 3) := by decide +kernel
theorem dX10_isNoSession_13 : decode cX10_isNoSession 13 = .ok (.iconst 0, 1) := by decide +kernel
theorem dX10_isNoSession_14 : decode cX10_isNoSession 14 = .ok (.iconst 1, 1) := by decide +kernel
theorem dX10_isNoSession_15 : decode cX10_isNoSession 15 = .ok (.invokevirtual 51, 3) := by decide +kernel
theorem dX10_isNoSession_18 : decode cX10_isNoSession 18 = .ok (.ireturn, 1) := by decide +kernel
theorem dX10_clearParts_0 : decode cX10_clearParts 0 = .ok (.aload_n 0, 1) := by decide +kernel
theorem dX10_clearParts_1 : decode cX10_clearParts 1 = .ok (.iload_n 1, 1) := by decide +kernel
theorem dX10_clearParts_2 : decode cX10_clearParts 2 = .ok (.invokevirtual 90, 3) := by decide +kernel
theorem dX10_clearParts_5 : decode cX10_clearParts 5 = .ok (.ifCond .eq 5, 3) := by decide +kernel
theorem dX10_clearParts_8 : decode cX10_clearParts 8 = .ok (.iconst 0, 1) := by decide +kernel
theorem dX10_clearParts_9 : decode cX10_clearParts 9 = .ok (.ireturn, 1) := by decide +kernel
theorem dX10_clearParts_10 : decode cX10_clearParts 10 = .ok (.aload_n 0, 1) := by decide +kernel
theorem dX10_clearParts_11 : decode cX10_clearParts 11 = .ok (.invokevirtual 55, 3) := by decide +kernel
theorem dX10_clearParts_14 : decode cX10_clearParts 14 = .ok (.aload_n 0, 1) := by decide +kernel
theorem dX10_clearParts_15 : decode cX10_clearParts 15 = .ok (.getfield 9, 3) := by decide +kernel
theorem dX10_clearParts_18 : decode cX10_clearParts 18 = .ok (.aload_n 0, 1) := by decide +kernel
theorem dX10_clearParts_19 : decode cX10_clearParts 19 = .ok (.aload_n 0, 1) := by decide +kernel
theorem dX10_clearParts_20 : decode cX10_clearParts 20 = .ok (.iload_n 1, 1) := by decide +kernel
theorem dX10_clearParts_21 : decode cX10_clearParts 21 = .ok (.invokevirtual 84, 3) := by decide +kernel
theorem dX10_clearParts_24 : decode cX10_clearParts 24 = .ok (.invokevirtual 75, 3) := by decide +kernel
theorem dX10_clearParts_27 : decode cX10_clearParts 27 = .ok (.iconst 2, 1) := by decide +kernel
theorem dX10_clearParts_28 : decode cX10_clearParts 28 = .ok (.iadd, 1) := by decide +kernel
theorem dX10_clearParts_29 : decode cX10_clearParts 29 = .ok (.iaload, 1) := by decide +kernel
theorem dX10_clearParts_30 : decode cX10_clearParts 30 = .ok (.istore_n 2, 1) := by decide +kernel
theorem dX10_clearParts_31 : decode cX10_clearParts 31 = .ok (.aload_n 0, 1) := by decide +kernel
theorem dX10_clearParts_32 : decode cX10_clearParts 32 = .ok (.getfield 9, 3) := by decide +kernel
theorem dX10_clearParts_35 : decode cX10_clearParts 35 = .ok (.aload_n 0, 1) := by decide +kernel
theorem dX10_clearParts_36 : decode cX10_clearParts 36 = .ok (.aload_n 0, 1) := by decide +kernel
theorem dX10_clearParts_37 : decode cX10_clearParts 37 = .ok (.iload_n 1, 1) := by decide +kernel
theorem dX10_clearParts_38 : decode cX10_clearParts 38 = .ok (.invokevirtual 84, 3) := by decide +kernel
theorem dX10_clearParts_41 : decode cX10_clearParts 41 = .ok (.invokevirtual 75, 3) := by decide +kernel
theorem dX10_clearParts_44 : decode cX10_clearParts 44 = .ok (.iconst 2, 1) := by decide +kernel
theorem dX10_clearParts_45 : decode cX10_clearParts 45 = .ok (.iadd, 1) := by decide +kernel
theorem dX10_clearParts_46 : decode cX10_clearParts 46 = .ok (.iconst 0, 1) := by decide +kernel
theorem dX10_clearParts_47 : decode cX10_clearParts 47 = .ok (.iastore, 1) := by decide +kernel
theorem dX10_clearParts_48 : decode cX10_clearParts 48 = .ok (.iload_n 2, 1) := by decide +kernel
theorem dX10_clearParts_49 : decode cX10_clearParts 49 = .ok (.ireturn, 1) := by decide +kernel
theorem dX10_moveSession_0 : decode cX10_moveSession 0 = .ok (.aload_n 0, 1) := by decide +kernel
theorem dX10_moveSession_1 : decode cX10_moveSession 1 = .ok (.iload_n 1, 1) := by decide +kernel
theorem dX10_moveSession_2 : decode cX10_moveSession 2 = .ok (.invokevirtual 90, 3) := by decide +kernel
end
section
theorem dX10_moveSession_5 : decode cX10_moveSession 5 = .ok (.ifCond .ne 16, 3) := by decide +kernel
theorem dX10_moveSession_8 : decode cX10_moveSession 8 = .ok (.aload_n 0, 1) := by decide +kernel
theorem dX10_moveSession_9 : decode cX10_moveSession 9 = .ok (.aload_n 0, 1) := by decide +kernel
theorem dX10_moveSession_10 : decode cX10_moveSession 10 = .ok (.iload_n 2, 1) := by decide +kernel
theorem dX10_moveSession_11 : decode cX10_moveSession 11 = .ok (.invokevirtual 58, 3) := by decide +kernel
theorem dX10_moveSession_14 : decode cX10_moveSession 14 = .ok (.iconst 2, 1) := by decide +kernel
theorem dX10_moveSession_15 : decode cX10_moveSession 15 = .ok (.invokevirtual 51, 3) := by decide +kernel
theorem dX10_moveSession_18 : decode cX10_moveSession 18 = .ok (.ifCond .eq 5, 3) := by decide +kernel
theorem dX10_moveSession_21 : decode cX10_moveSession 21 = .ok (.iconst 0, 1) := by decide +kernel
theorem dX10_moveSession_22 : decode cX10_moveSession 22 = .ok (.ireturn, 1) := by decide +kernel
theorem dX10_moveSession_23 : decode cX10_moveSession 23 = .ok (.aload_n 0, 1) := by decide +kernel
theorem dX10_moveSession_24 : decode cX10_moveSession 24 = .ok (.invokevirtual 55, 3) := by decide +kernel
theorem dX10_moveSession_27 : decode cX10_moveSession 27 = .ok (.aload_n 0, 1) := by decide +kernel
theorem dX10_moveSession_28 : decode cX10_moveSession 28 = .ok (.getfield 9, 3) := by decide +kernel
theorem dX10_moveSession_31 : decode cX10_moveSession 31 = .ok (.aload_n 0, 1) := by decide +kernel
theorem dX10_moveSession_32 : decode cX10_moveSession 32 = .ok (.aload_n 0, 1) := by decide +kernel
theorem dX10_moveSession_33 : decode cX10_moveSession 33 = .ok (.iload_n 1, 1) := by decide +kernel
theorem dX10_moveSession_34 : decode cX10_moveSession 34 = .ok (.invokevirtual 84, 3) := by decide +kernel
theorem dX10_moveSession_37 : decode cX10_moveSession 37 = .ok (.invokevirtual 75, 3) := by decide +kernel
theorem dX10_moveSession_40 : decode cX10_moveSession 40 = .ok (.iconst 1, 1) := by decide +kernel
theorem dX10_moveSession_41 : decode cX10_moveSession 41 = .ok (.iadd, 1) := by decide +kernel
theorem dX10_moveSession_42 : decode cX10_moveSession 42 = .ok (.iaload, 1) := by decide +kernel
theorem dX10_moveSession_43 : decode cX10_moveSession 43 = .ok (.istore_n 3, 1) := by decide +kernel
theorem dX10_moveSession_44 : decode cX10_moveSession 44 = .ok (.aload_n 0, 1) := by decide +kernel
theorem dX10_moveSession_45 : decode cX10_moveSession 45 = .ok (.getfield 9, 3) := by decide +kernel
theorem dX10_moveSession_48 : decode cX10_moveSession 48 = .ok (.aload_n 0, 1) := by decide +kernel
theorem dX10_moveSession_49 : decode cX10_moveSession 49 = .ok (.aload_n 0, 1) := by decide +kernel
theorem dX10_moveSession_50 : decode cX10_moveSession 50 = .ok (.iload_n 1, 1) := by decide +kernel
theorem dX10_moveSession_51 : decode cX10_moveSession 51 = .ok (.invokevirtual 84, 3) := by decide +kernel
theorem dX10_moveSession_54 : decode cX10_moveSession 54 = .ok (.invokevirtual 75, 3) := by decide +kernel
theorem dX10_moveSession_57 : decode cX10_moveSession 57 = .ok (.iconst 1, 1) := by decide +kernel
theorem dX10_moveSession_58 : decode cX10_moveSession 58 = .ok (.iadd, 1) := by decide +kernel
theorem dX10_moveSession_59 : decode cX10_moveSession 59 = .ok (.iload_n 2, 1) := by decide +kernel
theorem dX10_moveSession_60 : decode cX10_moveSession 60 = .ok (.iastore, 1) := by decide +kernel
theorem dX10_moveSession_61 : decode cX10_moveSession 61 = .ok (.iload_n 3, 1) := by decide +kernel
theorem dX10_moveSession_62 : decode cX10_moveSession 62 = .ok (.ireturn, 1) := by decide +kernel
theorem dX10_removeSession_0 : decode cX10_removeSession 0 = .ok (.aload_n 0, 1) := by decide +kernel
theorem dX10_removeSession_1 : decode cX10_removeSession 1 = .ok (.iload_n 1, 1) := by decide +kernel
theorem dX10_removeSession_2 : decode cX10_removeSession 2 = .ok (.invokevirtual 90, 3) := by decide +kernel
theorem dX10_removeSession_5 : decode cX10_removeSession 5 = .ok (.ifCond .eq 5, 3) := by decide +kernel
theorem dX10_removeSession_8 : decode cX10_removeSession 8 = .ok (.iconst 0, 1) := by decide +kernel
theorem dX10_removeSession_9 : decode cX10_removeSession 9 = .ok (.ireturn, 1) := by decide +kernel
theorem dX10_removeSession_10 : decode cX10_removeSession 10 = .ok (.aload_n 0, 1) := by decide +kernel
theorem dX10_removeSession_11 : decode cX10_removeSession 11 = .ok (.invokevirtual 55, 3) := by decide +kernel
theorem dX10_removeSession_14 : decode cX10_removeSession 14 = .ok (.aload_n 0, 1) := by decide +kernel
theorem dX10_removeSession_15 : decode cX10_removeSession 15 = .ok (.aload_n 0, 1) := by decide +kernel
theorem dX10_removeSession_16 : decode cX10_removeSession 16 = .ok (.iload_n 1, 1) := by decide +kernel
theorem dX10_removeSession_17 : decode cX10_removeSession 17 = .ok (.invokevirtual 84, 3) := by decide +kernel
theorem dX10_removeSession_20 : decode cX10_removeSession 20 = .ok (.invokevirtual 75, 3) := by decide +kernel
theorem dX10_removeSession_23 : decode cX10_removeSession 23 = .ok (.istore_n 2, 1) := by decide +kernel
theorem dX10_removeSession_24 : decode cX10_removeSession 24 = .ok (.iload_n 2, 1) := by decide +kernel
theorem dX10_removeSession_25 : decode cX10_removeSession 25 = .ok (.aload_n 0, 1) := by decide +kernel
theorem dX10_removeSession_26 : decode cX10_removeSession 26 = .ok (.aload_n 0, 1) := by decide +kernel
theorem dX10_removeSession_27 : decode cX10_removeSession 27 = .ok (.getfield 9, 3) := by decide +kernel
theorem dX10_removeSession_30 : decode cX10_removeSession 30 = .ok (.iconst 2, 1) := by decide +kernel
theorem dX10_removeSession_31 : decode cX10_removeSession 31 = .ok (.iaload, 1) := by decide +kernel
theorem dX10_removeSession_32 : decode cX10_removeSession 32 = .ok (.iconst 1, 1) := by decide +kernel
theorem dX10_removeSession_33 : decode cX10_removeSession 33 = .ok (.isub, 1) := by decide +kernel
theorem dX10_removeSession_34 : decode cX10_removeSession 34 = .ok (.invokevirtual 75, 3) := by decide +kernel
theorem dX10_removeSession_37 : decode cX10_removeSession 37 = .ok (.if_icmp .ge 24, 3) := by decide +kernel
theorem dX10_removeSession_40 : decode cX10_removeSession 40 = .ok (.aload_n 0, 1) := by decide +kernel
theorem dX10_removeSession_41 : decode cX10_removeSession 41 = .ok (.getfield 9, 3) := by decide +kernel
theorem dX10_removeSession_44 : decode cX10_removeSession 44 = .ok (.iload_n 2, 1) := by decide +kernel
theorem dX10_removeSession_45 : decode cX10_removeSession 45 = .ok (.aload_n 0, 1) := by decide +kernel
theorem dX10_removeSession_46 : decode cX10_removeSession 46 = .ok (.getfield 9, 3) := by decide +kernel
theorem dX10_removeSession_49 : decode cX10_removeSession 49 = .ok (.iload_n 2, 1) := by decide +kernel
theorem dX10_removeSession_50 : decode cX10_removeSession 50 = .ok (.bipush 19, 2) := by decide +kernel
theorem dX10_removeSession_52 : decode cX10_removeSession 52 = .ok (.iadd, 1) := by decide +kernel
theorem dX10_removeSession_53 : decode cX10_removeSession 53 = .ok (.iaload, 1) := by decide +kernel
theorem dX10_removeSession_54 : decode cX10_removeSession 54 = .ok (.iastore, 1) := by decide +kernel
theorem dX10_removeSession_55 : decode cX10_removeSession 55 = .ok (.iinc 2 1, 3) := by decide +kernel
theorem dX10_removeSession_58 : decode cX10_removeSession 58 = .ok (.goto (-34), 3) := by decide +kernel
theorem dX10_removeSession_61 : decode cX10_removeSession 61 = .ok (.aload_n 0, 1) := by decide +kernel
theorem dX10_removeSession_62 : decode cX10_removeSession 62 = .ok (.getfield 9, 3) := by decide +kernel
theorem dX10_removeSession_65 : decode cX10_removeSession 65 = .ok (.iconst 2, 1) := by decide +kernel
theorem dX10_removeSession_66 : decode cX10_removeSession 66 = .ok (.dup2, 1) := by decide +kernel
theorem dX10_removeSession_67 : decode cX10_removeSession 67 = .ok (.iaload, 1) := by decide +kernel
theorem dX10_removeSession_68 : decode cX10_removeSession 68 = .ok (.iconst 1, 1) := by decide +kernel
theorem dX10_removeSession_69 : decode cX10_removeSession 69 = .ok (.isub, 1) := by decide +kernel
theorem dX10_removeSession_70 : decode cX10_removeSession 70 = .ok (.iastore, 1) := by decide +kernel
theorem dX10_removeSession_71 : decode cX10_removeSession 71 = .ok (.aload_n 0, 1) := by decide +kernel
theorem dX10_removeSession_72 : decode cX10_removeSession 72 = .ok (.getfield 9, 3) := by decide +kernel
theorem dX10_removeSession_75 : decode cX10_removeSession 75 = .ok (.iconst 2, 1) := by decide +kernel
theorem dX10_removeSession_76 : decode cX10_removeSession 76 = .ok (.iaload, 1) := by decide +kernel
theorem dX10_removeSession_77 : decode cX10_removeSession 77 = .ok (.ireturn, 1) := by decide +kernel
theorem dX10_sessionCount_0 : decode cX10_sessionCount 0 = .ok (.aload_n 0, 1) := by decide +kernel
theorem dX10_sessionCount_1 : decode cX10_sessionCount 1 = .ok (.iconst 0, 1) := by decide +kernel
theorem dX10_sessionCount_2 : decode cX10_sessionCount 2 = .ok (.putfield 31, 3) := by decide +kernel
theorem dX10_sessionCount_5 : decode cX10_sessionCount 5 = .ok (.aload_n 0, 1) := by decide +kernel
theorem dX10_sessionCount_6 : decode cX10_sessionCount 6 = .ok (.getfield 9, 3) := by decide +kernel
theorem dX10_sessionCount_9 : decode cX10_sessionCount 9 = .ok (.iconst 2, 1) := by decide +kernel
theorem dX10_sessionCount_10 : decode cX10_sessionCount 10 = .ok (.iaload, 1) := by decide +kernel
theorem dX10_sessionCount_11 : decode cX10_sessionCount 11 = .ok (.ireturn, 1) := by decide +kernel
theorem dX10_ranked_0 : decode cX10_ranked 0 = .ok (.iconst 0, 1) := by decide +kernel
theorem dX10_ranked_1 : decode cX10_ranked 1 = .ok (.istore_n 2, 1) := by decide +kernel
theorem dX10_ranked_2 : decode cX10_ranked 2 = .ok (.iload_n 2, 1) := by decide +kernel
theorem dX10_ranked_3 : decode cX10_ranked 3 = .ok (.aload_n 0, 1) := by decide +kernel
theorem dX10_ranked_4 : decode cX10_ranked 4 = .ok (.getfield 9, 3) := by decide +kernel
theorem dX10_ranked_7 : decode cX10_ranked 7 = .ok (.iconst 2, 1) := by decide +kernel
theorem dX10_ranked_8 : decode cX10_ranked 8 = .ok (.iaload, 1) := by decide +kernel
theorem dX10_ranked_9 : decode cX10_ranked 9 = .ok (.if_icmp .ge 113, 3) := by decide +kernel
theorem dX10_ranked_12 : decode cX10_ranked 12 = .ok (.iconst 0, 1) := by decide +kernel
theorem dX10_ranked_13 : decode cX10_ranked 13 = .ok (.istore_n 3, 1) := by decide +kernel
theorem dX10_ranked_14 : decode cX10_ranked 14 = .ok (.iconst 0, 1) := by decide +kernel
theorem dX10_ranked_15 : decode cX10_ranked 15 = .ok (.istore 4, 2) := by decide +kernel
theorem dX10_ranked_17 : decode cX10_ranked 17 = .ok (.iload 4, 2) := by decide +kernel
theorem dX10_ranked_19 : decode cX10_ranked 19 = .ok (.aload_n 0, 1) := by decide +kernel
theorem dX10_ranked_20 : decode cX10_ranked 20 = .ok (.getfield 9, 3) := by decide +kernel
theorem dX10_ranked_23 : decode cX10_ranked 23 = .ok (.iconst 2, 1) := by decide +kernel
theorem dX10_ranked_24 : decode cX10_ranked 24 = .ok (.iaload, 1) := by decide +kernel
theorem dX10_ranked_25 : decode cX10_ranked 25 = .ok (.if_icmp .ge 84, 3) := by decide +kernel
theorem dX10_ranked_28 : decode cX10_ranked 28 = .ok (.aload_n 0, 1) := by decide +kernel
theorem dX10_ranked_29 : decode cX10_ranked 29 = .ok (.getfield 9, 3) := by decide +kernel
theorem dX10_ranked_32 : decode cX10_ranked 32 = .ok (.aload_n 0, 1) := by decide +kernel
theorem dX10_ranked_33 : decode cX10_ranked 33 = .ok (.iload 4, 2) := by decide +kernel
theorem dX10_ranked_35 : decode cX10_ranked 35 = .ok (.invokevirtual 75, 3) := by decide +kernel
theorem dX10_ranked_38 : decode cX10_ranked 38 = .ok (.iconst 1, 1) := by decide +kernel
theorem dX10_ranked_39 : decode cX10_ranked 39 = .ok (.iadd, 1) := by decide +kernel
theorem dX10_ranked_40 : decode cX10_ranked 40 = .ok (.iaload, 1) := by decide +kernel
theorem dX10_ranked_41 : decode cX10_ranked 41 = .ok (.istore 5, 2) := by decide +kernel
theorem dX10_ranked_43 : decode cX10_ranked 43 = .ok (.aload_n 0, 1) := by decide +kernel
theorem dX10_ranked_44 : decode cX10_ranked 44 = .ok (.getfield 9, 3) := by decide +kernel
theorem dX10_ranked_47 : decode cX10_ranked 47 = .ok (.aload_n 0, 1) := by decide +kernel
theorem dX10_ranked_48 : decode cX10_ranked 48 = .ok (.iload_n 2, 1) := by decide +kernel
theorem dX10_ranked_49 : decode cX10_ranked 49 = .ok (.invokevirtual 75, 3) := by decide +kernel
theorem dX10_ranked_52 : decode cX10_ranked 52 = .ok (.iconst 1, 1) := by decide +kernel
theorem dX10_ranked_53 : decode cX10_ranked 53 = .ok (.iadd, 1) := by decide +kernel
theorem dX10_ranked_54 : decode cX10_ranked 54 = .ok (.iaload, 1) := by decide +kernel
theorem dX10_ranked_55 : decode cX10_ranked 55 = .ok (.istore 6, 2) := by decide +kernel
theorem dX10_ranked_57 : decode cX10_ranked 57 = .ok (.iload_n 3, 1) := by decide +kernel
theorem dX10_ranked_58 : decode cX10_ranked 58 = .ok (.iload 5, 2) := by decide +kernel
theorem dX10_ranked_60 : decode cX10_ranked 60 = .ok (.iload 6, 2) := by decide +kernel
theorem dX10_ranked_62 : decode cX10_ranked 62 = .ok (.if_icmp .lt 34, 3) := by decide +kernel
theorem dX10_ranked_65 : decode cX10_ranked 65 = .ok (.iload 5, 2) := by decide +kernel
theorem dX10_ranked_67 : decode cX10_ranked 67 = .ok (.iload 6, 2) := by decide +kernel
theorem dX10_ranked_69 : decode cX10_ranked 69 = .ok (.if_icmp .ne 31, 3) := by decide +kernel
theorem dX10_ranked_72 : decode cX10_ranked 72 = .ok (.aload_n 0, 1) := by decide +kernel
theorem dX10_ranked_73 : decode cX10_ranked 73 = .ok (.getfield 9, 3) := by decide +kernel
theorem dX10_ranked_76 : decode cX10_ranked 76 = .ok (.aload_n 0, 1) := by decide +kernel
theorem dX10_ranked_77 : decode cX10_ranked 77 = .ok (.iload 4, 2) := by decide +kernel
theorem dX10_ranked_79 : decode cX10_ranked 79 = .ok (.invokevirtual 75, 3) := by decide +kernel
theorem dX10_ranked_82 : decode cX10_ranked 82 = .ok (.iaload, 1) := by decide +kernel
theorem dX10_ranked_83 : decode cX10_ranked 83 = .ok (.aload_n 0, 1) := by decide +kernel
theorem dX10_ranked_84 : decode cX10_ranked 84 = .ok (.getfield 9, 3) := by decide +kernel
theorem dX10_ranked_87 : decode cX10_ranked 87 = .ok (.aload_n 0, 1) := by decide +kernel
theorem dX10_ranked_88 : decode cX10_ranked 88 = .ok (.iload_n 2, 1) := by decide +kernel
theorem dX10_ranked_89 : decode cX10_ranked 89 = .ok (.invokevirtual 75, 3) := by decide +kernel
theorem dX10_ranked_92 : decode cX10_ranked 92 = .ok (.iaload, 1) := by decide +kernel
theorem dX10_ranked_93 : decode cX10_ranked 93 = .ok (.if_icmp .ge 7, 3) := by decide +kernel
theorem dX10_ranked_96 : decode cX10_ranked 96 = .ok (.iconst 1, 1) := by decide +kernel
theorem dX10_ranked_97 : decode cX10_ranked 97 = .ok (.goto 4, 3) := by decide +kernel
theorem dX10_ranked_100 : decode cX10_ranked 100 = .ok (.iconst 0, 1) := by decide +kernel
theorem dX10_ranked_101 : decode cX10_ranked 101 = .ok (.iadd, 1) := by decide +kernel
theorem dX10_ranked_102 : decode cX10_ranked 102 = .ok (.istore_n 3, 1) := by decide +kernel
theorem dX10_ranked_103 : decode cX10_ranked 103 = .ok (.iinc 4 1, 3) := by decide +kernel
theorem dX10_ranked_106 : decode cX10_ranked 106 = .ok (.goto (-89), 3) := by decide +kernel
theorem dX10_ranked_109 : decode cX10_ranked 109 = .ok (.iload_n 3, 1) := by decide +kernel
theorem dX10_ranked_110 : decode cX10_ranked 110 = .ok (.iload_n 1, 1) := by decide +kernel
theorem dX10_ranked_111 : decode cX10_ranked 111 = .ok (.if_icmp .ne 5, 3) := by decide +kernel
theorem dX10_ranked_114 : decode cX10_ranked 114 = .ok (.iload_n 2, 1) := by decide +kernel
theorem dX10_ranked_115 : decode cX10_ranked 115 = .ok (.ireturn, 1) := by decide +kernel
theorem dX10_ranked_116 : decode cX10_ranked 116 = .ok (.iinc 2 1, 3) := by decide +kernel
theorem dX10_ranked_119 : decode cX10_ranked 119 = .ok (.goto (-117), 3) := by decide +kernel
theorem dX10_ranked_122 : decode cX10_ranked 122 = .ok (.iconst (-1), 1) := by decide +kernel
theorem dX10_ranked_123 : decode cX10_ranked 123 = .ok (.ireturn, 1) := by decide +kernel
theorem dX10_sessionAt_0 : decode cX10_sessionAt 0 = .ok (.aload_n 0, 1) := by decide +kernel
theorem dX10_sessionAt_1 : decode cX10_sessionAt 1 = .ok (.iload_n 1, 1) := by decide +kernel
theorem dX10_sessionAt_2 : decode cX10_sessionAt 2 = .ok (.iconst 0, 1) := by decide +kernel
theorem dX10_sessionAt_3 : decode cX10_sessionAt 3 = .ok (.aload_n 0, 1) := by decide +kernel
theorem dX10_sessionAt_4 : decode cX10_sessionAt 4 = .ok (.getfield 9, 3) := by decide +kernel
theorem dX10_sessionAt_7 : decode cX10_sessionAt 7 = .ok (.iconst 2, 1) := by decide +kernel
theorem dX10_sessionAt_8 : decode cX10_sessionAt 8 = .ok (.iaload, 1) := by decide +kernel
theorem dX10_sessionAt_9 : decode cX10_sessionAt 9 = .ok (.iconst 1, 1) := by decide +kernel
theorem dX10_sessionAt_10 : decode cX10_sessionAt 10 = .ok (.isub, 1) := by decide +kernel
theorem dX10_sessionAt_11 : decode cX10_sessionAt 11 = .ok (.invokestatic 47, 3) := by decide +kernel
theorem dX10_sessionAt_14 : decode cX10_sessionAt 14 = .ok (.ifCond .ne 7, 3) := by decide +kernel
theorem dX10_sessionAt_17 : decode cX10_sessionAt 17 = .ok (.iconst 1, 1) := by decide +kernel
theorem dX10_sessionAt_18 : decode cX10_sessionAt 18 = .ok (.goto 4, 3) := by decide +kernel
theorem dX10_sessionAt_21 : decode cX10_sessionAt 21 = .ok (.iconst 0, 1) := by decide +kernel
theorem dX10_sessionAt_22 : decode cX10_sessionAt 22 = .ok (.iconst 1, 1) := by decide +kernel
theorem dX10_sessionAt_23 : decode cX10_sessionAt 23 = .ok (.invokevirtual 51, 3) := by decide +kernel
theorem dX10_sessionAt_26 : decode cX10_sessionAt 26 = .ok (.ifCond .eq 7, 3) := by decide +kernel
theorem dX10_sessionAt_29 : decode cX10_sessionAt 29 = .ok (.iconst 0, 1) := by decide +kernel
theorem dX10_sessionAt_30 : decode cX10_sessionAt 30 = .ok (.goto 17, 3) := by decide +kernel
theorem dX10_sessionAt_33 : decode cX10_sessionAt 33 = .ok (.aload_n 0, 1) := by decide +kernel
theorem dX10_sessionAt_34 : decode cX10_sessionAt 34 = .ok (.getfield 9, 3) := by decide +kernel
theorem dX10_sessionAt_37 : decode cX10_sessionAt 37 = .ok (.aload_n 0, 1) := by decide +kernel
theorem dX10_sessionAt_38 : decode cX10_sessionAt 38 = .ok (.aload_n 0, 1) := by decide +kernel
theorem dX10_sessionAt_39 : decode cX10_sessionAt 39 = .ok (.iload_n 1, 1) := by decide +kernel
theorem dX10_sessionAt_40 : decode cX10_sessionAt 40 = .ok (.invokevirtual 93, 3) := by decide +kernel
theorem dX10_sessionAt_43 : decode cX10_sessionAt 43 = .ok (.invokevirtual 75, 3) := by decide +kernel
theorem dX10_sessionAt_46 : decode cX10_sessionAt 46 = .ok (.iaload, 1) := by decide +kernel
theorem dX10_sessionAt_47 : decode cX10_sessionAt 47 = .ok (.ireturn, 1) := by decide +kernel
theorem dX10_dayOf_0 : decode cX10_dayOf 0 = .ok (.aload_n 0, 1) := by decide +kernel
theorem dX10_dayOf_1 : decode cX10_dayOf 1 = .ok (.iload_n 1, 1) := by decide +kernel
theorem dX10_dayOf_2 : decode cX10_dayOf 2 = .ok (.invokevirtual 90, 3) := by decide +kernel
theorem dX10_dayOf_5 : decode cX10_dayOf 5 = .ok (.ifCond .eq 7, 3) := by decide +kernel
theorem dX10_dayOf_8 : decode cX10_dayOf 8 = .ok (.iconst 0, 1) := by decide +kernel
theorem dX10_dayOf_9 : decode cX10_dayOf 9 = .ok (.goto 19, 3) := by decide +kernel
theorem dX10_dayOf_12 : decode cX10_dayOf 12 = .ok (.aload_n 0, 1) := by decide +kernel
theorem dX10_dayOf_13 : decode cX10_dayOf 13 = .ok (.getfield 9, 3) := by decide +kernel
theorem dX10_dayOf_16 : decode cX10_dayOf 16 = .ok (.aload_n 0, 1) := by decide +kernel
theorem dX10_dayOf_17 : decode cX10_dayOf 17 = .ok (.aload_n 0, 1) := by decide +kernel
theorem dX10_dayOf_18 : decode cX10_dayOf 18 = .ok (.iload_n 1, 1) := by decide +kernel
theorem dX10_dayOf_19 : decode cX10_dayOf 19 = .ok (.invokevirtual 84, 3) := by decide +kernel
theorem dX10_dayOf_22 : decode cX10_dayOf 22 = .ok (.invokevirtual 75, 3) := by decide +kernel
theorem dX10_dayOf_25 : decode cX10_dayOf 25 = .ok (.iconst 1, 1) := by decide +kernel
theorem dX10_dayOf_26 : decode cX10_dayOf 26 = .ok (.iadd, 1) := by decide +kernel
theorem dX10_dayOf_27 : decode cX10_dayOf 27 = .ok (.iaload, 1) := by decide +kernel
theorem dX10_dayOf_28 : decode cX10_dayOf 28 = .ok (.ireturn, 1) := by decide +kernel
theorem dX10_minutesOf_0 : decode cX10_minutesOf 0 = .ok (.aload_n 0, 1) := by decide +kernel
theorem dX10_minutesOf_1 : decode cX10_minutesOf 1 = .ok (.iload_n 1, 1) := by decide +kernel
theorem dX10_minutesOf_2 : decode cX10_minutesOf 2 = .ok (.invokevirtual 90, 3) := by decide +kernel
theorem dX10_minutesOf_5 : decode cX10_minutesOf 5 = .ok (.ifCond .eq 7, 3) := by decide +kernel
theorem dX10_minutesOf_8 : decode cX10_minutesOf 8 = .ok (.iconst 0, 1) := by decide +kernel
theorem dX10_minutesOf_9 : decode cX10_minutesOf 9 = .ok (.goto 12, 3) := by decide +kernel
theorem dX10_minutesOf_12 : decode cX10_minutesOf 12 = .ok (.aload_n 0, 1) := by decide +kernel
theorem dX10_minutesOf_13 : decode cX10_minutesOf 13 = .ok (.aload_n 0, 1) := by decide +kernel
theorem dX10_minutesOf_14 : decode cX10_minutesOf 14 = .ok (.iload_n 1, 1) := by decide +kernel
theorem dX10_minutesOf_15 : decode cX10_minutesOf 15 = .ok (.invokevirtual 84, 3) := by decide +kernel
theorem dX10_minutesOf_18 : decode cX10_minutesOf 18 = .ok (.invokevirtual 87, 3) := by decide +kernel
theorem dX10_minutesOf_21 : decode cX10_minutesOf 21 = .ok (.ireturn, 1) := by decide +kernel
theorem dX10_minutesInZone_0 : decode cX10_minutesInZone 0 = .ok (.aload_n 0, 1) := by decide +kernel
theorem dX10_minutesInZone_1 : decode cX10_minutesInZone 1 = .ok (.iload_n 1, 1) := by decide +kernel
theorem dX10_minutesInZone_2 : decode cX10_minutesInZone 2 = .ok (.invokevirtual 90, 3) := by decide +kernel
theorem dX10_minutesInZone_5 : decode cX10_minutesInZone 5 = .ok (.ifCond .ne 25, 3) := by decide +kernel
theorem dX10_minutesInZone_8 : decode cX10_minutesInZone 8 = .ok (.aload_n 0, 1) := by decide +kernel
theorem dX10_minutesInZone_9 : decode cX10_minutesInZone 9 = .ok (.iload_n 2, 1) := by decide +kernel
theorem dX10_minutesInZone_10 : decode cX10_minutesInZone 10 = .ok (.iconst 1, 1) := by decide +kernel
theorem dX10_minutesInZone_11 : decode cX10_minutesInZone 11 = .ok (.iconst 5, 1) := by decide +kernel
theorem dX10_minutesInZone_12 : decode cX10_minutesInZone 12 = .ok (.invokestatic 47, 3) := by decide +kernel
theorem dX10_minutesInZone_15 : decode cX10_minutesInZone 15 = .ok (.ifCond .ne 7, 3) := by decide +kernel
theorem dX10_minutesInZone_18 : decode cX10_minutesInZone 18 = .ok (.iconst 1, 1) := by decide +kernel
theorem dX10_minutesInZone_19 : decode cX10_minutesInZone 19 = .ok (.goto 4, 3) := by decide +kernel
theorem dX10_minutesInZone_22 : decode cX10_minutesInZone 22 = .ok (.iconst 0, 1) := by decide +kernel
theorem dX10_minutesInZone_23 : decode cX10_minutesInZone 23 = .ok (.iconst 2, 1) := by decide +kernel
theorem dX10_minutesInZone_24 : decode cX10_minutesInZone 24 = .ok (.invokevirtual 51, 3) := by decide +kernel
theorem dX10_minutesInZone_27 : decode cX10_minutesInZone 27 = .ok (.ifCond .eq 5, 3) := by decide +kernel
theorem dX10_minutesInZone_30 : decode cX10_minutesInZone 30 = .ok (.iconst 0, 1) := by decide +kernel
theorem dX10_minutesInZone_31 : decode cX10_minutesInZone 31 = .ok (.ireturn, 1) := by decide +kernel
theorem dX10_minutesInZone_32 : decode cX10_minutesInZone 32 = .ok (.aload_n 0, 1) := by decide +kernel
theorem dX10_minutesInZone_33 : decode cX10_minutesInZone 33 = .ok (.invokevirtual 78, 3) := by decide +kernel
theorem dX10_minutesInZone_36 : decode cX10_minutesInZone 36 = .ok (.aload_n 0, 1) := by decide +kernel
theorem dX10_minutesInZone_37 : decode cX10_minutesInZone 37 = .ok (.aload_n 0, 1) := by decide +kernel
theorem dX10_minutesInZone_38 : decode cX10_minutesInZone 38 = .ok (.iload_n 1, 1) := by decide +kernel
theorem dX10_minutesInZone_39 : decode cX10_minutesInZone 39 = .ok (.invokevirtual 84, 3) := by decide +kernel
theorem dX10_minutesInZone_42 : decode cX10_minutesInZone 42 = .ok (.invokevirtual 81, 3) := by decide +kernel
theorem dX10_minutesInZone_45 : decode cX10_minutesInZone 45 = .ok (.aload_n 0, 1) := by decide +kernel
theorem dX10_minutesInZone_46 : decode cX10_minutesInZone 46 = .ok (.getfield 24, 3) := by decide +kernel
theorem dX10_minutesInZone_49 : decode cX10_minutesInZone 49 = .ok (.iload_n 2, 1) := by decide +kernel
theorem dX10_minutesInZone_50 : decode cX10_minutesInZone 50 = .ok (.iaload, 1) := by decide +kernel
theorem dX10_minutesInZone_51 : decode cX10_minutesInZone 51 = .ok (.ireturn, 1) := by decide +kernel
theorem dX10_loadOf_0 : decode cX10_loadOf 0 = .ok (.aload_n 0, 1) := by decide +kernel
theorem dX10_loadOf_1 : decode cX10_loadOf 1 = .ok (.iload_n 1, 1) := by decide +kernel
theorem dX10_loadOf_2 : decode cX10_loadOf 2 = .ok (.invokevirtual 90, 3) := by decide +kernel
theorem dX10_loadOf_5 : decode cX10_loadOf 5 = .ok (.ifCond .eq 7, 3) := by decide +kernel
theorem dX10_loadOf_8 : decode cX10_loadOf 8 = .ok (.iconst 0, 1) := by decide +kernel
theorem dX10_loadOf_9 : decode cX10_loadOf 9 = .ok (.goto 12, 3) := by decide +kernel
theorem dX10_loadOf_12 : decode cX10_loadOf 12 = .ok (.aload_n 0, 1) := by decide +kernel
theorem dX10_loadOf_13 : decode cX10_loadOf 13 = .ok (.aload_n 0, 1) := by decide +kernel
theorem dX10_loadOf_14 : decode cX10_loadOf 14 = .ok (.iload_n 1, 1) := by decide +kernel
theorem dX10_loadOf_15 : decode cX10_loadOf 15 = .ok (.invokevirtual 84, 3) := by decide +kernel
theorem dX10_loadOf_18 : decode cX10_loadOf 18 = .ok (.invokevirtual 66, 3) := by decide +kernel
theorem dX10_loadOf_21 : decode cX10_loadOf 21 = .ok (.ireturn, 1) := by decide +kernel
theorem dX10_loads_0 : decode cX10_loads 0 = .ok (.iconst 0, 1) := by decide +kernel
theorem dX10_loads_1 : decode cX10_loads 1 = .ok (.istore_n 1, 1) := by decide +kernel
theorem dX10_loads_2 : decode cX10_loads 2 = .ok (.iload_n 1, 1) := by decide +kernel
theorem dX10_loads_3 : decode cX10_loads 3 = .ok (.sipush 199, 3) := by decide +kernel
theorem dX10_loads_6 : decode cX10_loads 6 = .ok (.if_icmp .gt 16, 3) := by decide +kernel
theorem dX10_loads_9 : decode cX10_loads 9 = .ok (.aload_n 0, 1) := by decide +kernel
theorem dX10_loads_10 : decode cX10_loads 10 = .ok (.getfield 21, 3) := by decide +kernel
theorem dX10_loads_13 : decode cX10_loads 13 = .ok (.iload_n 1, 1) := by decide +kernel
theorem dX10_loads_14 : decode cX10_loads 14 = .ok (.iconst 0, 1) := by decide +kernel
theorem dX10_loads_15 : decode cX10_loads 15 = .ok (.iastore, 1) := by decide +kernel
theorem dX10_loads_16 : decode cX10_loads 16 = .ok (.iinc 1 1, 3) := by decide +kernel
theorem dX10_loads_19 : decode cX10_loads 19 = .ok (.goto (-17), 3) := by decide +kernel
theorem dX10_loads_22 : decode cX10_loads 22 = .ok (.iconst 0, 1) := by decide +kernel
theorem dX10_loads_23 : decode cX10_loads 23 = .ok (.istore_n 1, 1) := by decide +kernel
theorem dX10_loads_24 : decode cX10_loads 24 = .ok (.iload_n 1, 1) := by decide +kernel
theorem dX10_loads_25 : decode cX10_loads 25 = .ok (.aload_n 0, 1) := by decide +kernel
theorem dX10_loads_26 : decode cX10_loads 26 = .ok (.getfield 9, 3) := by decide +kernel
theorem dX10_loads_29 : decode cX10_loads 29 = .ok (.iconst 2, 1) := by decide +kernel
theorem dX10_loads_30 : decode cX10_loads 30 = .ok (.iaload, 1) := by decide +kernel
theorem dX10_loads_31 : decode cX10_loads 31 = .ok (.if_icmp .ge 34, 3) := by decide +kernel
theorem dX10_loads_34 : decode cX10_loads 34 = .ok (.aload_n 0, 1) := by decide +kernel
theorem dX10_loads_35 : decode cX10_loads 35 = .ok (.getfield 21, 3) := by decide +kernel
theorem dX10_loads_38 : decode cX10_loads 38 = .ok (.aload_n 0, 1) := by decide +kernel
theorem dX10_loads_39 : decode cX10_loads 39 = .ok (.getfield 9, 3) := by decide +kernel
theorem dX10_loads_42 : decode cX10_loads 42 = .ok (.aload_n 0, 1) := by decide +kernel
theorem dX10_loads_43 : decode cX10_loads 43 = .ok (.iload_n 1, 1) := by decide +kernel
theorem dX10_loads_44 : decode cX10_loads 44 = .ok (.invokevirtual 75, 3) := by decide +kernel
theorem dX10_loads_47 : decode cX10_loads 47 = .ok (.iconst 1, 1) := by decide +kernel
theorem dX10_loads_48 : decode cX10_loads 48 = .ok (.iadd, 1) := by decide +kernel
theorem dX10_loads_49 : decode cX10_loads 49 = .ok (.iaload, 1) := by decide +kernel
theorem dX10_loads_50 : decode cX10_loads 50 = .ok (.dup2, 1) := by decide +kernel
theorem dX10_loads_51 : decode cX10_loads 51 = .ok (.iaload, 1) := by decide +kernel
theorem dX10_loads_52 : decode cX10_loads 52 = .ok (.aload_n 0, 1) := by decide +kernel
theorem dX10_loads_53 : decode cX10_loads 53 = .ok (.iload_n 1, 1) := by decide +kernel
theorem dX10_loads_54 : decode cX10_loads 54 = .ok (.invokevirtual 66, 3) := by decide +kernel
theorem dX10_loads_57 : decode cX10_loads 57 = .ok (.iadd, 1) := by decide +kernel
theorem dX10_loads_58 : decode cX10_loads 58 = .ok (.iastore, 1) := by decide +kernel
theorem dX10_loads_59 : decode cX10_loads 59 = .ok (.iinc 1 1, 3) := by decide +kernel
theorem dX10_loads_62 : decode cX10_loads 62 = .ok (.goto (-38), 3) := by decide +kernel
theorem dX10_loads_65 : decode cX10_loads 65 = .ok (.return_, 1) := by decide +kernel
theorem dX10_loadOn_0 : decode cX10_loadOn 0 = .ok (.aload_n 0, 1) := by decide +kernel
theorem dX10_loadOn_1 : decode cX10_loadOn 1 = .ok (.invokevirtual 96, 3) := by decide +kernel
theorem dX10_loadOn_4 : decode cX10_loadOn 4 = .ok (.aload_n 0, 1) := by decide +kernel
theorem dX10_loadOn_5 : decode cX10_loadOn 5 = .ok (.aload_n 0, 1) := by decide +kernel
theorem dX10_loadOn_6 : decode cX10_loadOn 6 = .ok (.iload_n 1, 1) := by decide +kernel
theorem dX10_loadOn_7 : decode cX10_loadOn 7 = .ok (.invokevirtual 58, 3) := by decide +kernel
theorem dX10_loadOn_10 : decode cX10_loadOn 10 = .ok (.iconst 1, 1) := by decide +kernel
theorem dX10_loadOn_11 : decode cX10_loadOn 11 = .ok (.invokevirtual 51, 3) := by decide +kernel
theorem dX10_loadOn_14 : decode cX10_loadOn 14 = .ok (.ifCond .eq 7, 3) := by decide +kernel
theorem dX10_loadOn_17 : decode cX10_loadOn 17 = .ok (.iconst 0, 1) := by decide +kernel
theorem dX10_loadOn_18 : decode cX10_loadOn 18 = .ok (.goto 9, 3) := by decide +kernel
theorem dX10_loadOn_21 : decode cX10_loadOn 21 = .ok (.aload_n 0, 1) := by decide +kernel
theorem dX10_loadOn_22 : decode cX10_loadOn 22 = .ok (.getfield 21, 3) := by decide +kernel
theorem dX10_loadOn_25 : decode cX10_loadOn 25 = .ok (.iload_n 1, 1) := by decide +kernel
theorem dX10_loadOn_26 : decode cX10_loadOn 26 = .ok (.iaload, 1) := by decide +kernel
theorem dX10_loadOn_27 : decode cX10_loadOn 27 = .ok (.ireturn, 1) := by decide +kernel
theorem dX10_zoneShare_0 : decode cX10_zoneShare 0 = .ok (.aload_n 0, 1) := by decide +kernel
theorem dX10_zoneShare_1 : decode cX10_zoneShare 1 = .ok (.invokevirtual 78, 3) := by decide +kernel
theorem dX10_zoneShare_4 : decode cX10_zoneShare 4 = .ok (.iconst 0, 1) := by decide +kernel
theorem dX10_zoneShare_5 : decode cX10_zoneShare 5 = .ok (.istore_n 2, 1) := by decide +kernel
theorem dX10_zoneShare_6 : decode cX10_zoneShare 6 = .ok (.iconst 0, 1) := by decide +kernel
theorem dX10_zoneShare_7 : decode cX10_zoneShare 7 = .ok (.istore_n 3, 1) := by decide +kernel
theorem dX10_zoneShare_8 : decode cX10_zoneShare 8 = .ok (.iload_n 3, 1) := by decide +kernel
theorem dX10_zoneShare_9 : decode cX10_zoneShare 9 = .ok (.aload_n 0, 1) := by decide +kernel
theorem dX10_zoneShare_10 : decode cX10_zoneShare 10 = .ok (.getfield 9, 3) := by decide +kernel
theorem dX10_zoneShare_13 : decode cX10_zoneShare 13 = .ok (.iconst 2, 1) := by decide +kernel
theorem dX10_zoneShare_14 : decode cX10_zoneShare 14 = .ok (.iaload, 1) := by decide +kernel
theorem dX10_zoneShare_15 : decode cX10_zoneShare 15 = .ok (.if_icmp .ge 22, 3) := by decide +kernel
theorem dX10_zoneShare_18 : decode cX10_zoneShare 18 = .ok (.aload_n 0, 1) := by decide +kernel
theorem dX10_zoneShare_19 : decode cX10_zoneShare 19 = .ok (.iload_n 3, 1) := by decide +kernel
theorem dX10_zoneShare_20 : decode cX10_zoneShare 20 = .ok (.invokevirtual 81, 3) := by decide +kernel
theorem dX10_zoneShare_23 : decode cX10_zoneShare 23 = .ok (.iload_n 2, 1) := by decide +kernel
theorem dX10_zoneShare_24 : decode cX10_zoneShare 24 = .ok (.aload_n 0, 1) := by decide +kernel
theorem dX10_zoneShare_25 : decode cX10_zoneShare 25 = .ok (.iload_n 3, 1) := by decide +kernel
theorem dX10_zoneShare_26 : decode cX10_zoneShare 26 = .ok (.invokevirtual 87, 3) := by decide +kernel
theorem dX10_zoneShare_29 : decode cX10_zoneShare 29 = .ok (.iadd, 1) := by decide +kernel
theorem dX10_zoneShare_30 : decode cX10_zoneShare 30 = .ok (.istore_n 2, 1) := by decide +kernel
theorem dX10_zoneShare_31 : decode cX10_zoneShare 31 = .ok (.iinc 3 1, 3) := by decide +kernel
theorem dX10_zoneShare_34 : decode cX10_zoneShare 34 = .ok (.goto (-26), 3) := by decide +kernel
theorem dX10_zoneShare_37 : decode cX10_zoneShare 37 = .ok (.aload_n 0, 1) := by decide +kernel
theorem dX10_zoneShare_38 : decode cX10_zoneShare 38 = .ok (.iload_n 1, 1) := by decide +kernel
theorem dX10_zoneShare_39 : decode cX10_zoneShare 39 = .ok (.iconst 1, 1) := by decide +kernel
theorem dX10_zoneShare_40 : decode cX10_zoneShare 40 = .ok (.iconst 5, 1) := by decide +kernel
theorem dX10_zoneShare_41 : decode cX10_zoneShare 41 = .ok (.invokestatic 47, 3) := by decide +kernel
theorem dX10_zoneShare_44 : decode cX10_zoneShare 44 = .ok (.ifCond .ne 7, 3) := by decide +kernel
theorem dX10_zoneShare_47 : decode cX10_zoneShare 47 = .ok (.iconst 1, 1) := by decide +kernel
theorem dX10_zoneShare_48 : decode cX10_zoneShare 48 = .ok (.goto 4, 3) := by decide +kernel
theorem dX10_zoneShare_51 : decode cX10_zoneShare 51 = .ok (.iconst 0, 1) := by decide +kernel
theorem dX10_zoneShare_52 : decode cX10_zoneShare 52 = .ok (.iconst 1, 1) := by decide +kernel
theorem dX10_zoneShare_53 : decode cX10_zoneShare 53 = .ok (.invokevirtual 51, 3) := by decide +kernel
theorem dX10_zoneShare_56 : decode cX10_zoneShare 56 = .ok (.ifCond .ne 20, 3) := by decide +kernel
theorem dX10_zoneShare_59 : decode cX10_zoneShare 59 = .ok (.aload_n 0, 1) := by decide +kernel
theorem dX10_zoneShare_60 : decode cX10_zoneShare 60 = .ok (.iload_n 2, 1) := by decide +kernel
theorem dX10_zoneShare_61 : decode cX10_zoneShare 61 = .ok (.ifCond .ne 7, 3) := by decide +kernel
theorem dX10_zoneShare_64 : decode cX10_zoneShare 64 = .ok (.iconst 1, 1) := by decide +kernel
theorem dX10_zoneShare_65 : decode cX10_zoneShare 65 = .ok (.goto 4, 3) := by decide +kernel
theorem dX10_zoneShare_68 : decode cX10_zoneShare 68 = .ok (.iconst 0, 1) := by decide +kernel
theorem dX10_zoneShare_69 : decode cX10_zoneShare 69 = .ok (.iconst 2, 1) := by decide +kernel
theorem dX10_zoneShare_70 : decode cX10_zoneShare 70 = .ok (.invokevirtual 51, 3) := by decide +kernel
theorem dX10_zoneShare_73 : decode cX10_zoneShare 73 = .ok (.ifCond .eq 7, 3) := by decide +kernel
theorem dX10_zoneShare_76 : decode cX10_zoneShare 76 = .ok (.fconst 0, 1) := by decide +kernel
theorem dX10_zoneShare_77 : decode cX10_zoneShare 77 = .ok (.goto 13, 3) := by decide +kernel
theorem dX10_zoneShare_80 : decode cX10_zoneShare 80 = .ok (.aload_n 0, 1) := by decide +kernel
theorem dX10_zoneShare_81 : decode cX10_zoneShare 81 = .ok (.getfield 24, 3) := by decide +kernel
theorem dX10_zoneShare_84 : decode cX10_zoneShare 84 = .ok (.iload_n 1, 1) := by decide +kernel
theorem dX10_zoneShare_85 : decode cX10_zoneShare 85 = .ok (.iaload, 1) := by decide +kernel
theorem dX10_zoneShare_86 : decode cX10_zoneShare 86 = .ok (.i2f, 1) := by decide +kernel
theorem dX10_zoneShare_87 : decode cX10_zoneShare 87 = .ok (.iload_n 2, 1) := by decide +kernel
theorem dX10_zoneShare_88 : decode cX10_zoneShare 88 = .ok (.i2f, 1) := by decide +kernel
theorem dX10_zoneShare_89 : decode cX10_zoneShare 89 = .ok (.fdiv, 1) := by decide +kernel
theorem dX10_zoneShare_90 : decode cX10_zoneShare 90 = .ok (.freturn, 1) := by decide +kernel
theorem dX10_meanLoad_0 : decode cX10_meanLoad 0 = .ok (.aload_n 0, 1) := by decide +kernel
theorem dX10_meanLoad_1 : decode cX10_meanLoad 1 = .ok (.iconst 0, 1) := by decide +kernel
theorem dX10_meanLoad_2 : decode cX10_meanLoad 2 = .ok (.putfield 31, 3) := by decide +kernel
theorem dX10_meanLoad_5 : decode cX10_meanLoad 5 = .ok (.aload_n 0, 1) := by decide +kernel
theorem dX10_meanLoad_6 : decode cX10_meanLoad 6 = .ok (.invokevirtual 96, 3) := by decide +kernel
theorem dX10_meanLoad_9 : decode cX10_meanLoad 9 = .ok (.iconst 0, 1) := by decide +kernel
theorem dX10_meanLoad_10 : decode cX10_meanLoad 10 = .ok (.istore_n 1, 1) := by decide +kernel
theorem dX10_meanLoad_11 : decode cX10_meanLoad 11 = .ok (.iconst 0, 1) := by decide +kernel
theorem dX10_meanLoad_12 : decode cX10_meanLoad 12 = .ok (.istore_n 2, 1) := by decide +kernel
theorem dX10_meanLoad_13 : decode cX10_meanLoad 13 = .ok (.iload_n 2, 1) := by decide +kernel
theorem dX10_meanLoad_14 : decode cX10_meanLoad 14 = .ok (.aload_n 0, 1) := by decide +kernel
theorem dX10_meanLoad_15 : decode cX10_meanLoad 15 = .ok (.getfield 9, 3) := by decide +kernel
theorem dX10_meanLoad_18 : decode cX10_meanLoad 18 = .ok (.iconst 0, 1) := by decide +kernel
theorem dX10_meanLoad_19 : decode cX10_meanLoad 19 = .ok (.iaload, 1) := by decide +kernel
theorem dX10_meanLoad_20 : decode cX10_meanLoad 20 = .ok (.if_icmp .gt 18, 3) := by decide +kernel
theorem dX10_meanLoad_23 : decode cX10_meanLoad 23 = .ok (.iload_n 1, 1) := by decide +kernel
theorem dX10_meanLoad_24 : decode cX10_meanLoad 24 = .ok (.aload_n 0, 1) := by decide +kernel
theorem dX10_meanLoad_25 : decode cX10_meanLoad 25 = .ok (.getfield 21, 3) := by decide +kernel
theorem dX10_meanLoad_28 : decode cX10_meanLoad 28 = .ok (.iload_n 2, 1) := by decide +kernel
theorem dX10_meanLoad_29 : decode cX10_meanLoad 29 = .ok (.iaload, 1) := by decide +kernel
theorem dX10_meanLoad_30 : decode cX10_meanLoad 30 = .ok (.iadd, 1) := by decide +kernel
theorem dX10_meanLoad_31 : decode cX10_meanLoad 31 = .ok (.istore_n 1, 1) := by decide +kernel
theorem dX10_meanLoad_32 : decode cX10_meanLoad 32 = .ok (.iinc 2 1, 3) := by decide +kernel
theorem dX10_meanLoad_35 : decode cX10_meanLoad 35 = .ok (.goto (-22), 3) := by decide +kernel
theorem dX10_meanLoad_38 : decode cX10_meanLoad 38 = .ok (.iload_n 1, 1) := by decide +kernel
theorem dX10_meanLoad_39 : decode cX10_meanLoad 39 = .ok (.i2d, 1) := by decide +kernel
theorem dX10_meanLoad_40 : decode cX10_meanLoad 40 = .ok (.aload_n 0, 1) := by decide +kernel
theorem dX10_meanLoad_41 : decode cX10_meanLoad 41 = .ok (.getfield 9, 3) := by decide +kernel
theorem dX10_meanLoad_44 : decode cX10_meanLoad 44 = .ok (.iconst 0, 1) := by decide +kernel
theorem dX10_meanLoad_45 : decode cX10_meanLoad 45 = .ok (.iaload, 1) := by decide +kernel
theorem dX10_meanLoad_46 : decode cX10_meanLoad 46 = .ok (.iconst 1, 1) := by decide +kernel
theorem dX10_meanLoad_47 : decode cX10_meanLoad 47 = .ok (.iadd, 1) := by decide +kernel
theorem dX10_meanLoad_48 : decode cX10_meanLoad 48 = .ok (.i2d, 1) := by decide +kernel
theorem dX10_meanLoad_49 : decode cX10_meanLoad 49 = .ok (.ddiv, 1) := by decide +kernel
theorem dX10_meanLoad_50 : decode cX10_meanLoad 50 = .ok (.dreturn, 1) := by decide +kernel
theorem dX10_decayed_0 : decode cX10_decayed 0 = .ok (.iconst 0, 1) := by decide +kernel
theorem dX10_decayed_1 : decode cX10_decayed 1 = .ok (.istore_n 3, 1) := by decide +kernel
theorem dX10_decayed_2 : decode cX10_decayed 2 = .ok (.iconst 0, 1) := by decide +kernel
theorem dX10_decayed_3 : decode cX10_decayed 3 = .ok (.istore 4, 2) := by decide +kernel
theorem dX10_decayed_5 : decode cX10_decayed 5 = .ok (.iload 4, 2) := by decide +kernel
theorem dX10_decayed_7 : decode cX10_decayed 7 = .ok (.iload_n 1, 1) := by decide +kernel
theorem dX10_decayed_8 : decode cX10_decayed 8 = .ok (.if_icmp .gt 39, 3) := by decide +kernel
theorem dX10_decayed_11 : decode cX10_decayed 11 = .ok (.iload_n 3, 1) := by decide +kernel
theorem dX10_decayed_12 : decode cX10_decayed 12 = .ok (.sipush 1000, 3) := by decide +kernel
theorem dX10_decayed_15 : decode cX10_decayed 15 = .ok (.iload 4, 2) := by decide +kernel
theorem dX10_decayed_17 : decode cX10_decayed 17 = .ok (.sipush 199, 3) := by decide +kernel
theorem dX10_decayed_20 : decode cX10_decayed 20 = .ok (.if_icmp .gt 13, 3) := by decide +kernel
theorem dX10_decayed_23 : decode cX10_decayed 23 = .ok (.aload_n 0, 1) := by decide +kernel
theorem dX10_decayed_24 : decode cX10_decayed 24 = .ok (.getfield 21, 3) := by decide +kernel
theorem dX10_decayed_27 : decode cX10_decayed 27 = .ok (.iload 4, 2) := by decide +kernel
theorem dX10_decayed_29 : decode cX10_decayed 29 = .ok (.iaload, 1) := by decide +kernel
theorem dX10_decayed_30 : decode cX10_decayed 30 = .ok (.goto 4, 3) := by decide +kernel
theorem dX10_decayed_33 : decode cX10_decayed 33 = .ok (.iconst 0, 1) := by decide +kernel
theorem dX10_decayed_34 : decode cX10_decayed 34 = .ok (.imul, 1) := by decide +kernel
theorem dX10_decayed_35 : decode cX10_decayed 35 = .ok (.iload_n 3, 1) := by decide +kernel
theorem dX10_decayed_36 : decode cX10_decayed 36 = .ok (.isub, 1) := by decide +kernel
theorem dX10_decayed_37 : decode cX10_decayed 37 = .ok (.iload_n 2, 1) := by decide +kernel
theorem dX10_decayed_38 : decode cX10_decayed 38 = .ok (.idiv, 1) := by decide +kernel
theorem dX10_decayed_39 : decode cX10_decayed 39 = .ok (.iadd, 1) := by decide +kernel
theorem dX10_decayed_40 : decode cX10_decayed 40 = .ok (.istore_n 3, 1) := by decide +kernel
theorem dX10_decayed_41 : decode cX10_decayed 41 = .ok (.iinc 4 1, 3) := by decide +kernel
theorem dX10_decayed_44 : decode cX10_decayed 44 = .ok (.goto (-39), 3) := by decide +kernel
theorem dX10_decayed_47 : decode cX10_decayed 47 = .ok (.iload_n 3, 1) := by decide +kernel
theorem dX10_decayed_48 : decode cX10_decayed 48 = .ok (.ireturn, 1) := by decide +kernel
theorem dX10_form_0 : decode cX10_form 0 = .ok (.aload_n 0, 1) := by decide +kernel
theorem dX10_form_1 : decode cX10_form 1 = .ok (.iload_n 1, 1) := by decide +kernel
theorem dX10_form_2 : decode cX10_form 2 = .ok (.iconst 1, 1) := by decide +kernel
theorem dX10_form_3 : decode cX10_form 3 = .ok (.isub, 1) := by decide +kernel
theorem dX10_form_4 : decode cX10_form 4 = .ok (.bipush 42, 2) := by decide +kernel
theorem dX10_form_6 : decode cX10_form 6 = .ok (.invokevirtual 99, 3) := by decide +kernel
theorem dX10_form_9 : decode cX10_form 9 = .ok (.aload_n 0, 1) := by decide +kernel
theorem dX10_form_10 : decode cX10_form 10 = .ok (.iload_n 1, 1) := by decide +kernel
theorem dX10_form_11 : decode cX10_form 11 = .ok (.iconst 1, 1) := by decide +kernel
theorem dX10_form_12 : decode cX10_form 12 = .ok (.isub, 1) := by decide +kernel
theorem dX10_form_13 : decode cX10_form 13 = .ok (.bipush 7, 2) := by decide +kernel
theorem dX10_form_15 : decode cX10_form 15 = .ok (.invokevirtual 99, 3) := by decide +kernel
theorem dX10_form_18 : decode cX10_form 18 = .ok (.isub, 1) := by decide +kernel
theorem dX10_form_19 : decode cX10_form 19 = .ok (.ireturn, 1) := by decide +kernel
theorem dX10_fitnessOn_0 : decode cX10_fitnessOn 0 = .ok (.aload_n 0, 1) := by decide +kernel
theorem dX10_fitnessOn_1 : decode cX10_fitnessOn 1 = .ok (.invokevirtual 96, 3) := by decide +kernel
theorem dX10_fitnessOn_4 : decode cX10_fitnessOn 4 = .ok (.aload_n 0, 1) := by decide +kernel
theorem dX10_fitnessOn_5 : decode cX10_fitnessOn 5 = .ok (.aload_n 0, 1) := by decide +kernel
theorem dX10_fitnessOn_6 : decode cX10_fitnessOn 6 = .ok (.iload_n 1, 1) := by decide +kernel
theorem dX10_fitnessOn_7 : decode cX10_fitnessOn 7 = .ok (.invokevirtual 58, 3) := by decide +kernel
theorem dX10_fitnessOn_10 : decode cX10_fitnessOn 10 = .ok (.iconst 1, 1) := by decide +kernel
theorem dX10_fitnessOn_11 : decode cX10_fitnessOn 11 = .ok (.invokevirtual 51, 3) := by decide +kernel
theorem dX10_fitnessOn_14 : decode cX10_fitnessOn 14 = .ok (.ifCond .eq 7, 3) := by decide +kernel
theorem dX10_fitnessOn_17 : decode cX10_fitnessOn 17 = .ok (.iconst 0, 1) := by decide +kernel
theorem dX10_fitnessOn_18 : decode cX10_fitnessOn 18 = .ok (.goto 10, 3) := by decide +kernel
theorem dX10_fitnessOn_21 : decode cX10_fitnessOn 21 = .ok (.aload_n 0, 1) := by decide +kernel
theorem dX10_fitnessOn_22 : decode cX10_fitnessOn 22 = .ok (.iload_n 1, 1) := by decide +kernel
theorem dX10_fitnessOn_23 : decode cX10_fitnessOn 23 = .ok (.bipush 42, 2) := by decide +kernel
theorem dX10_fitnessOn_25 : decode cX10_fitnessOn 25 = .ok (.invokevirtual 99, 3) := by decide +kernel
theorem dX10_fitnessOn_28 : decode cX10_fitnessOn 28 = .ok (.ireturn, 1) := by decide +kernel
theorem dX10_fitnessFromStart_0 : decode cX10_fitnessFromStart 0 = .ok (.aload_n 0, 1) := by decide +kernel
theorem dX10_fitnessFromStart_1 : decode cX10_fitnessFromStart 1 = .ok (.iload_n 1, 1) := by decide +kernel
theorem dX10_fitnessFromStart_2 : decode cX10_fitnessFromStart 2 = .ok (.invokevirtual 102, 3) := by decide +kernel
theorem dX10_fitnessFromStart_5 : decode cX10_fitnessFromStart 5 = .ok (.ireturn, 1) := by decide +kernel
theorem dX10_fatigueOn_0 : decode cX10_fatigueOn 0 = .ok (.aload_n 0, 1) := by decide +kernel
theorem dX10_fatigueOn_1 : decode cX10_fatigueOn 1 = .ok (.invokevirtual 96, 3) := by decide +kernel
theorem dX10_fatigueOn_4 : decode cX10_fatigueOn 4 = .ok (.aload_n 0, 1) := by decide +kernel
theorem dX10_fatigueOn_5 : decode cX10_fatigueOn 5 = .ok (.aload_n 0, 1) := by decide +kernel
theorem dX10_fatigueOn_6 : decode cX10_fatigueOn 6 = .ok (.iload_n 1, 1) := by decide +kernel
theorem dX10_fatigueOn_7 : decode cX10_fatigueOn 7 = .ok (.invokevirtual 58, 3) := by decide +kernel
theorem dX10_fatigueOn_10 : decode cX10_fatigueOn 10 = .ok (.iconst 1, 1) := by decide +kernel
theorem dX10_fatigueOn_11 : decode cX10_fatigueOn 11 = .ok (.invokevirtual 51, 3) := by decide +kernel
theorem dX10_fatigueOn_14 : decode cX10_fatigueOn 14 = .ok (.ifCond .eq 7, 3) := by decide +kernel
theorem dX10_fatigueOn_17 : decode cX10_fatigueOn 17 = .ok (.iconst 0, 1) := by decide +kernel
theorem dX10_fatigueOn_18 : decode cX10_fatigueOn 18 = .ok (.goto 10, 3) := by decide +kernel
theorem dX10_fatigueOn_21 : decode cX10_fatigueOn 21 = .ok (.aload_n 0, 1) := by decide +kernel
theorem dX10_fatigueOn_22 : decode cX10_fatigueOn 22 = .ok (.iload_n 1, 1) := by decide +kernel
theorem dX10_fatigueOn_23 : decode cX10_fatigueOn 23 = .ok (.bipush 7, 2) := by decide +kernel
theorem dX10_fatigueOn_25 : decode cX10_fatigueOn 25 = .ok (.invokevirtual 99, 3) := by decide +kernel
theorem dX10_fatigueOn_28 : decode cX10_fatigueOn 28 = .ok (.ireturn, 1) := by decide +kernel
theorem dX10_fatigueFromStart_0 : decode cX10_fatigueFromStart 0 = .ok (.aload_n 0, 1) := by decide +kernel
theorem dX10_fatigueFromStart_1 : decode cX10_fatigueFromStart 1 = .ok (.iload_n 1, 1) := by decide +kernel
theorem dX10_fatigueFromStart_2 : decode cX10_fatigueFromStart 2 = .ok (.invokevirtual 105, 3) := by decide +kernel
theorem dX10_fatigueFromStart_5 : decode cX10_fatigueFromStart 5 = .ok (.ireturn, 1) := by decide +kernel
theorem dX10_formOn_0 : decode cX10_formOn 0 = .ok (.aload_n 0, 1) := by decide +kernel
theorem dX10_formOn_1 : decode cX10_formOn 1 = .ok (.invokevirtual 96, 3) := by decide +kernel
theorem dX10_formOn_4 : decode cX10_formOn 4 = .ok (.aload_n 0, 1) := by decide +kernel
theorem dX10_formOn_5 : decode cX10_formOn 5 = .ok (.aload_n 0, 1) := by decide +kernel
theorem dX10_formOn_6 : decode cX10_formOn 6 = .ok (.iload_n 1, 1) := by decide +kernel
theorem dX10_formOn_7 : decode cX10_formOn 7 = .ok (.invokevirtual 58, 3) := by decide +kernel
theorem dX10_formOn_10 : decode cX10_formOn 10 = .ok (.iconst 1, 1) := by decide +kernel
theorem dX10_formOn_11 : decode cX10_formOn 11 = .ok (.invokevirtual 51, 3) := by decide +kernel
theorem dX10_formOn_14 : decode cX10_formOn 14 = .ok (.ifCond .eq 7, 3) := by decide +kernel
theorem dX10_formOn_17 : decode cX10_formOn 17 = .ok (.iconst 0, 1) := by decide +kernel
theorem dX10_formOn_18 : decode cX10_formOn 18 = .ok (.goto 8, 3) := by decide +kernel
theorem dX10_formOn_21 : decode cX10_formOn 21 = .ok (.aload_n 0, 1) := by decide +kernel
theorem dX10_formOn_22 : decode cX10_formOn 22 = .ok (.iload_n 1, 1) := by decide +kernel
theorem dX10_formOn_23 : decode cX10_formOn 23 = .ok (.invokevirtual 108, 3) := by decide +kernel
theorem dX10_formOn_26 : decode cX10_formOn 26 = .ok (.ireturn, 1) := by decide +kernel
theorem dX10_bestFormDay_0 : decode cX10_bestFormDay 0 = .ok (.aload_n 0, 1) := by decide +kernel
theorem dX10_bestFormDay_1 : decode cX10_bestFormDay 1 = .ok (.iconst 0, 1) := by decide +kernel
theorem dX10_bestFormDay_2 : decode cX10_bestFormDay 2 = .ok (.putfield 31, 3) := by decide +kernel
theorem dX10_bestFormDay_5 : decode cX10_bestFormDay 5 = .ok (.aload_n 0, 1) := by decide +kernel
theorem dX10_bestFormDay_6 : decode cX10_bestFormDay 6 = .ok (.invokevirtual 96, 3) := by decide +kernel
theorem dX10_bestFormDay_9 : decode cX10_bestFormDay 9 = .ok (.iconst 0, 1) := by decide +kernel
theorem dX10_bestFormDay_10 : decode cX10_bestFormDay 10 = .ok (.istore_n 1, 1) := by decide +kernel
theorem dX10_bestFormDay_11 : decode cX10_bestFormDay 11 = .ok (.iconst 1, 1) := by decide +kernel
theorem dX10_bestFormDay_12 : decode cX10_bestFormDay 12 = .ok (.istore_n 2, 1) := by decide +kernel
theorem dX10_bestFormDay_13 : decode cX10_bestFormDay 13 = .ok (.iload_n 2, 1) := by decide +kernel
theorem dX10_bestFormDay_14 : decode cX10_bestFormDay 14 = .ok (.aload_n 0, 1) := by decide +kernel
theorem dX10_bestFormDay_15 : decode cX10_bestFormDay 15 = .ok (.getfield 9, 3) := by decide +kernel
theorem dX10_bestFormDay_18 : decode cX10_bestFormDay 18 = .ok (.iconst 0, 1) := by decide +kernel
theorem dX10_bestFormDay_19 : decode cX10_bestFormDay 19 = .ok (.iaload, 1) := by decide +kernel
theorem dX10_bestFormDay_20 : decode cX10_bestFormDay 20 = .ok (.if_icmp .gt 28, 3) := by decide +kernel
theorem dX10_bestFormDay_23 : decode cX10_bestFormDay 23 = .ok (.aload_n 0, 1) := by decide +kernel
theorem dX10_bestFormDay_24 : decode cX10_bestFormDay 24 = .ok (.iload_n 2, 1) := by decide +kernel
theorem dX10_bestFormDay_25 : decode cX10_bestFormDay 25 = .ok (.invokevirtual 108, 3) := by decide +kernel
theorem dX10_bestFormDay_28 : decode cX10_bestFormDay 28 = .ok (.aload_n 0, 1) := by decide +kernel
theorem dX10_bestFormDay_29 : decode cX10_bestFormDay 29 = .ok (.iload_n 1, 1) := by decide +kernel
theorem dX10_bestFormDay_30 : decode cX10_bestFormDay 30 = .ok (.invokevirtual 108, 3) := by decide +kernel
theorem dX10_bestFormDay_33 : decode cX10_bestFormDay 33 = .ok (.if_icmp .le 7, 3) := by decide +kernel
theorem dX10_bestFormDay_36 : decode cX10_bestFormDay 36 = .ok (.iload_n 2, 1) := by decide +kernel
theorem dX10_bestFormDay_37 : decode cX10_bestFormDay 37 = .ok (.goto 4, 3) := by decide +kernel
theorem dX10_bestFormDay_40 : decode cX10_bestFormDay 40 = .ok (.iload_n 1, 1) := by decide +kernel
theorem dX10_bestFormDay_41 : decode cX10_bestFormDay 41 = .ok (.istore_n 1, 1) := by decide +kernel
theorem dX10_bestFormDay_42 : decode cX10_bestFormDay 42 = .ok (.iinc 2 1, 3) := by decide +kernel
theorem dX10_bestFormDay_45 : decode cX10_bestFormDay 45 = .ok (.goto (-32), 3) := by decide +kernel
theorem dX10_bestFormDay_48 : decode cX10_bestFormDay 48 = .ok (.iload_n 1, 1) := by decide +kernel
theorem dX10_bestFormDay_49 : decode cX10_bestFormDay 49 = .ok (.ireturn, 1) := by decide +kernel
theorem dX10_daysToForm_0 : decode cX10_daysToForm 0 = .ok (.aload_n 0, 1) := by decide +kernel
theorem dX10_daysToForm_1 : decode cX10_daysToForm 1 = .ok (.invokevirtual 96, 3) := by decide +kernel
theorem dX10_daysToForm_4 : decode cX10_daysToForm 4 = .ok (.iconst (-1), 1) := by decide +kernel
theorem dX10_daysToForm_5 : decode cX10_daysToForm 5 = .ok (.istore_n 2, 1) := by decide +kernel
theorem dX10_daysToForm_6 : decode cX10_daysToForm 6 = .ok (.sipush 200, 3) := by decide +kernel
theorem dX10_daysToForm_9 : decode cX10_daysToForm 9 = .ok (.istore_n 3, 1) := by decide +kernel
theorem dX10_daysToForm_10 : decode cX10_daysToForm 10 = .ok (.iload_n 3, 1) := by decide +kernel
theorem dX10_daysToForm_11 : decode cX10_daysToForm 11 = .ok (.ifCond .lt 31, 3) := by decide +kernel
theorem dX10_daysToForm_14 : decode cX10_daysToForm 14 = .ok (.aload_n 0, 1) := by decide +kernel
theorem dX10_daysToForm_15 : decode cX10_daysToForm 15 = .ok (.aload_n 0, 1) := by decide +kernel
theorem dX10_daysToForm_16 : decode cX10_daysToForm 16 = .ok (.getfield 9, 3) := by decide +kernel
theorem dX10_daysToForm_19 : decode cX10_daysToForm 19 = .ok (.iconst 0, 1) := by decide +kernel
theorem dX10_daysToForm_20 : decode cX10_daysToForm 20 = .ok (.iaload, 1) := by decide +kernel
theorem dX10_daysToForm_21 : decode cX10_daysToForm 21 = .ok (.iload_n 3, 1) := by decide +kernel
theorem dX10_daysToForm_22 : decode cX10_daysToForm 22 = .ok (.iadd, 1) := by decide +kernel
theorem dX10_daysToForm_23 : decode cX10_daysToForm 23 = .ok (.invokevirtual 108, 3) := by decide +kernel
theorem dX10_daysToForm_26 : decode cX10_daysToForm 26 = .ok (.iload_n 1, 1) := by decide +kernel
theorem dX10_daysToForm_27 : decode cX10_daysToForm 27 = .ok (.if_icmp .lt 7, 3) := by decide +kernel
theorem dX10_daysToForm_30 : decode cX10_daysToForm 30 = .ok (.iload_n 3, 1) := by decide +kernel
theorem dX10_daysToForm_31 : decode cX10_daysToForm 31 = .ok (.goto 4, 3) := by decide +kernel
theorem dX10_daysToForm_34 : decode cX10_daysToForm 34 = .ok (.iload_n 2, 1) := by decide +kernel
theorem dX10_daysToForm_35 : decode cX10_daysToForm 35 = .ok (.istore_n 2, 1) := by decide +kernel
theorem dX10_daysToForm_36 : decode cX10_daysToForm 36 = .ok (.iinc 3 (-1), 3) := by decide +kernel
theorem dX10_daysToForm_39 : decode cX10_daysToForm 39 = .ok (.goto (-29), 3) := by decide +kernel
theorem dX10_daysToForm_42 : decode cX10_daysToForm 42 = .ok (.aload_n 0, 1) := by decide +kernel
theorem dX10_daysToForm_43 : decode cX10_daysToForm 43 = .ok (.iload_n 1, 1) := by decide +kernel
theorem dX10_daysToForm_44 : decode cX10_daysToForm 44 = .ok (.ldc 111, 2) := by decide +kernel
theorem dX10_daysToForm_46 : decode cX10_daysToForm 46 = .ok (.ldc 112, 2) := by decide +kernel
theorem dX10_daysToForm_48 : decode cX10_daysToForm 48 = .ok (.invokestatic 47, 3) := by decide +kernel
theorem dX10_daysToForm_51 : decode cX10_daysToForm 51 = .ok (.ifCond .ne 7, 3) := by decide +kernel
theorem dX10_daysToForm_54 : decode cX10_daysToForm 54 = .ok (.iconst 1, 1) := by decide +kernel
theorem dX10_daysToForm_55 : decode cX10_daysToForm 55 = .ok (.goto 4, 3) := by decide +kernel
theorem dX10_daysToForm_58 : decode cX10_daysToForm 58 = .ok (.iconst 0, 1) := by decide +kernel
theorem dX10_daysToForm_59 : decode cX10_daysToForm 59 = .ok (.iconst 1, 1) := by decide +kernel
theorem dX10_daysToForm_60 : decode cX10_daysToForm 60 = .ok (.invokevirtual 51, 3) := by decide +kernel
theorem dX10_daysToForm_63 : decode cX10_daysToForm 63 = .ok (.ifCond .ne 20, 3) := by decide +kernel
theorem dX10_daysToForm_66 : decode cX10_daysToForm 66 = .ok (.aload_n 0, 1) := by decide +kernel
theorem dX10_daysToForm_67 : decode cX10_daysToForm 67 = .ok (.iload_n 2, 1) := by decide +kernel
theorem dX10_daysToForm_68 : decode cX10_daysToForm 68 = .ok (.ifCond .ge 7, 3) := by decide +kernel
theorem dX10_daysToForm_71 : decode cX10_daysToForm 71 = .ok (.iconst 1, 1) := by decide +kernel
theorem dX10_daysToForm_72 : decode cX10_daysToForm 72 = .ok (.goto 4, 3) := by decide +kernel
theorem dX10_daysToForm_75 : decode cX10_daysToForm 75 = .ok (.iconst 0, 1) := by decide +kernel
theorem dX10_daysToForm_76 : decode cX10_daysToForm 76 = .ok (.iconst 2, 1) := by decide +kernel
theorem dX10_daysToForm_77 : decode cX10_daysToForm 77 = .ok (.invokevirtual 51, 3) := by decide +kernel
theorem dX10_daysToForm_80 : decode cX10_daysToForm 80 = .ok (.ifCond .eq 7, 3) := by decide +kernel
theorem dX10_daysToForm_83 : decode cX10_daysToForm 83 = .ok (.iconst 0, 1) := by decide +kernel
theorem dX10_daysToForm_84 : decode cX10_daysToForm 84 = .ok (.goto 4, 3) := by decide +kernel
theorem dX10_daysToForm_87 : decode cX10_daysToForm 87 = .ok (.iload_n 2, 1) := by decide +kernel
theorem dX10_daysToForm_88 : decode cX10_daysToForm 88 = .ok (.ireturn, 1) := by decide +kernel
theorem dX10_row_0 : decode cX10_row 0 = .ok (.iconst 0, 1) := by decide +kernel
theorem dX10_row_1 : decode cX10_row 1 = .ok (.istore_n 3, 1) := by decide +kernel
theorem dX10_row_2 : decode cX10_row 2 = .ok (.iload_n 1, 1) := by decide +kernel
theorem dX10_row_3 : decode cX10_row 3 = .ok (.istore 4, 2) := by decide +kernel
theorem dX10_row_5 : decode cX10_row 5 = .ok (.iload 4, 2) := by decide +kernel
theorem dX10_row_7 : decode cX10_row 7 = .ok (.iload_n 1, 1) := by decide +kernel
theorem dX10_row_8 : decode cX10_row 8 = .ok (.iload_n 2, 1) := by decide +kernel
theorem dX10_row_9 : decode cX10_row 9 = .ok (.iadd, 1) := by decide +kernel
theorem dX10_row_10 : decode cX10_row 10 = .ok (.if_icmp .ge 19, 3) := by decide +kernel
theorem dX10_row_13 : decode cX10_row 13 = .ok (.iload_n 3, 1) := by decide +kernel
theorem dX10_row_14 : decode cX10_row 14 = .ok (.aload_n 0, 1) := by decide +kernel
theorem dX10_row_15 : decode cX10_row 15 = .ok (.getfield 21, 3) := by decide +kernel
theorem dX10_row_18 : decode cX10_row 18 = .ok (.iload 4, 2) := by decide +kernel
theorem dX10_row_20 : decode cX10_row 20 = .ok (.iaload, 1) := by decide +kernel
theorem dX10_row_21 : decode cX10_row 21 = .ok (.iadd, 1) := by decide +kernel
theorem dX10_row_22 : decode cX10_row 22 = .ok (.istore_n 3, 1) := by decide +kernel
theorem dX10_row_23 : decode cX10_row 23 = .ok (.iinc 4 1, 3) := by decide +kernel
theorem dX10_row_26 : decode cX10_row 26 = .ok (.goto (-21), 3) := by decide +kernel
theorem dX10_row_29 : decode cX10_row 29 = .ok (.iload_n 3, 1) := by decide +kernel
theorem dX10_row_30 : decode cX10_row 30 = .ok (.ireturn, 1) := by decide +kernel
theorem dX10_isNoRow_0 : decode cX10_isNoRow 0 = .ok (.aload_n 0, 1) := by decide +kernel
theorem dX10_isNoRow_1 : decode cX10_isNoRow 1 = .ok (.iload_n 1, 1) := by decide +kernel
theorem dX10_isNoRow_2 : decode cX10_isNoRow 2 = .ok (.iconst 1, 1) := by decide +kernel
theorem dX10_isNoRow_3 : decode cX10_isNoRow 3 = .ok (.bipush 60, 2) := by decide +kernel
theorem dX10_isNoRow_5 : decode cX10_isNoRow 5 = .ok (.invokestatic 47, 3) := by decide +kernel
theorem dX10_isNoRow_8 : decode cX10_isNoRow 8 = .ok (.ifCond .ne 7, 3) := by decide +kernel
theorem dX10_isNoRow_11 : decode cX10_isNoRow 11 = .ok (.iconst 1, 1) := by decide +kernel
theorem dX10_isNoRow_12 : decode cX10_isNoRow 12 = .ok (.goto 4, 3) := by decide +kernel
theorem dX10_isNoRow_15 : decode cX10_isNoRow 15 = .ok (.iconst 0, 1) := by decide +kernel
theorem dX10_isNoRow_16 : decode cX10_isNoRow 16 = .ok (.iconst 1, 1) := by decide +kernel
theorem dX10_isNoRow_17 : decode cX10_isNoRow 17 = .ok (.invokevirtual 51, 3) := by decide +kernel
theorem dX10_isNoRow_20 : decode cX10_isNoRow 20 = .ok (.ifCond .ne 28, 3) := by decide +kernel
theorem dX10_isNoRow_23 : decode cX10_isNoRow 23 = .ok (.aload_n 0, 1) := by decide +kernel
theorem dX10_isNoRow_24 : decode cX10_isNoRow 24 = .ok (.aload_n 0, 1) := by decide +kernel
theorem dX10_isNoRow_25 : decode cX10_isNoRow 25 = .ok (.getfield 9, 3) := by decide +kernel
theorem dX10_isNoRow_28 : decode cX10_isNoRow 28 = .ok (.iconst 0, 1) := by decide +kernel
theorem dX10_isNoRow_29 : decode cX10_isNoRow 29 = .ok (.iaload, 1) := by decide +kernel
theorem dX10_isNoRow_30 : decode cX10_isNoRow 30 = .ok (.iload_n 1, 1) := by decide +kernel
theorem dX10_isNoRow_31 : decode cX10_isNoRow 31 = .ok (.iconst 1, 1) := by decide +kernel
theorem dX10_isNoRow_32 : decode cX10_isNoRow 32 = .ok (.isub, 1) := by decide +kernel
theorem dX10_isNoRow_33 : decode cX10_isNoRow 33 = .ok (.if_icmp .ge 7, 3) := by decide +kernel
theorem dX10_isNoRow_36 : decode cX10_isNoRow 36 = .ok (.iconst 1, 1) := by decide +kernel
theorem dX10_isNoRow_37 : decode cX10_isNoRow 37 = .ok (.goto 4, 3) := by decide +kernel
theorem dX10_isNoRow_40 : decode cX10_isNoRow 40 = .ok (.iconst 0, 1) := by decide +kernel
theorem dX10_isNoRow_41 : decode cX10_isNoRow 41 = .ok (.iconst 2, 1) := by decide +kernel
theorem dX10_isNoRow_42 : decode cX10_isNoRow 42 = .ok (.invokevirtual 51, 3) := by decide +kernel
theorem dX10_isNoRow_45 : decode cX10_isNoRow 45 = .ok (.ifCond .eq 7, 3) := by decide +kernel
theorem dX10_isNoRow_48 : decode cX10_isNoRow 48 = .ok (.iconst 1, 1) := by decide +kernel
theorem dX10_isNoRow_49 : decode cX10_isNoRow 49 = .ok (.goto 4, 3) := by decide +kernel
theorem dX10_isNoRow_52 : decode cX10_isNoRow 52 = .ok (.iconst 0, 1) := by decide +kernel
theorem dX10_isNoRow_53 : decode cX10_isNoRow 53 = .ok (.ireturn, 1) := by decide +kernel
theorem dX10_bestRow_0 : decode cX10_bestRow 0 = .ok (.aload_n 0, 1) := by decide +kernel
theorem dX10_bestRow_1 : decode cX10_bestRow 1 = .ok (.invokevirtual 96, 3) := by decide +kernel
theorem dX10_bestRow_4 : decode cX10_bestRow 4 = .ok (.iconst 0, 1) := by decide +kernel
theorem dX10_bestRow_5 : decode cX10_bestRow 5 = .ok (.istore_n 2, 1) := by decide +kernel
theorem dX10_bestRow_6 : decode cX10_bestRow 6 = .ok (.iconst 1, 1) := by decide +kernel
theorem dX10_bestRow_7 : decode cX10_bestRow 7 = .ok (.istore_n 3, 1) := by decide +kernel
theorem dX10_bestRow_8 : decode cX10_bestRow 8 = .ok (.iload_n 3, 1) := by decide +kernel
theorem dX10_bestRow_9 : decode cX10_bestRow 9 = .ok (.iload_n 1, 1) := by decide +kernel
theorem dX10_bestRow_10 : decode cX10_bestRow 10 = .ok (.iadd, 1) := by decide +kernel
theorem dX10_bestRow_11 : decode cX10_bestRow 11 = .ok (.iconst 1, 1) := by decide +kernel
theorem dX10_bestRow_12 : decode cX10_bestRow 12 = .ok (.isub, 1) := by decide +kernel
theorem dX10_bestRow_13 : decode cX10_bestRow 13 = .ok (.aload_n 0, 1) := by decide +kernel
theorem dX10_bestRow_14 : decode cX10_bestRow 14 = .ok (.getfield 9, 3) := by decide +kernel
theorem dX10_bestRow_17 : decode cX10_bestRow 17 = .ok (.iconst 0, 1) := by decide +kernel
theorem dX10_bestRow_18 : decode cX10_bestRow 18 = .ok (.iaload, 1) := by decide +kernel
theorem dX10_bestRow_19 : decode cX10_bestRow 19 = .ok (.if_icmp .gt 30, 3) := by decide +kernel
theorem dX10_bestRow_22 : decode cX10_bestRow 22 = .ok (.aload_n 0, 1) := by decide +kernel
theorem dX10_bestRow_23 : decode cX10_bestRow 23 = .ok (.iload_n 3, 1) := by decide +kernel
theorem dX10_bestRow_24 : decode cX10_bestRow 24 = .ok (.iload_n 1, 1) := by decide +kernel
theorem dX10_bestRow_25 : decode cX10_bestRow 25 = .ok (.invokevirtual 113, 3) := by decide +kernel
theorem dX10_bestRow_28 : decode cX10_bestRow 28 = .ok (.aload_n 0, 1) := by decide +kernel
theorem dX10_bestRow_29 : decode cX10_bestRow 29 = .ok (.iload_n 2, 1) := by decide +kernel
theorem dX10_bestRow_30 : decode cX10_bestRow 30 = .ok (.iload_n 1, 1) := by decide +kernel
theorem dX10_bestRow_31 : decode cX10_bestRow 31 = .ok (.invokevirtual 113, 3) := by decide +kernel
theorem dX10_bestRow_34 : decode cX10_bestRow 34 = .ok (.if_icmp .le 7, 3) := by decide +kernel
theorem dX10_bestRow_37 : decode cX10_bestRow 37 = .ok (.iload_n 3, 1) := by decide +kernel
theorem dX10_bestRow_38 : decode cX10_bestRow 38 = .ok (.goto 4, 3) := by decide +kernel
theorem dX10_bestRow_41 : decode cX10_bestRow 41 = .ok (.iload_n 2, 1) := by decide +kernel
theorem dX10_bestRow_42 : decode cX10_bestRow 42 = .ok (.istore_n 2, 1) := by decide +kernel
theorem dX10_bestRow_43 : decode cX10_bestRow 43 = .ok (.iinc 3 1, 3) := by decide +kernel
theorem dX10_bestRow_46 : decode cX10_bestRow 46 = .ok (.goto (-38), 3) := by decide +kernel
theorem dX10_bestRow_49 : decode cX10_bestRow 49 = .ok (.iload_n 2, 1) := by decide +kernel
theorem dX10_bestRow_50 : decode cX10_bestRow 50 = .ok (.ireturn, 1) := by decide +kernel
theorem dX10_bestDays_0 : decode cX10_bestDays 0 = .ok (.aload_n 0, 1) := by decide +kernel
theorem dX10_bestDays_1 : decode cX10_bestDays 1 = .ok (.iload_n 1, 1) := by decide +kernel
theorem dX10_bestDays_2 : decode cX10_bestDays 2 = .ok (.invokevirtual 116, 3) := by decide +kernel
theorem dX10_bestDays_5 : decode cX10_bestDays 5 = .ok (.ifCond .eq 7, 3) := by decide +kernel
theorem dX10_bestDays_8 : decode cX10_bestDays 8 = .ok (.iconst 0, 1) := by decide +kernel
theorem dX10_bestDays_9 : decode cX10_bestDays 9 = .ok (.goto 13, 3) := by decide +kernel
theorem dX10_bestDays_12 : decode cX10_bestDays 12 = .ok (.aload_n 0, 1) := by decide +kernel
theorem dX10_bestDays_13 : decode cX10_bestDays 13 = .ok (.aload_n 0, 1) := by decide +kernel
theorem dX10_bestDays_14 : decode cX10_bestDays 14 = .ok (.iload_n 1, 1) := by decide +kernel
theorem dX10_bestDays_15 : decode cX10_bestDays 15 = .ok (.invokevirtual 119, 3) := by decide +kernel
theorem dX10_bestDays_18 : decode cX10_bestDays 18 = .ok (.iload_n 1, 1) := by decide +kernel
theorem dX10_bestDays_19 : decode cX10_bestDays 19 = .ok (.invokevirtual 113, 3) := by decide +kernel
theorem dX10_bestDays_22 : decode cX10_bestDays 22 = .ok (.ireturn, 1) := by decide +kernel
theorem dX10_bestDaysByTrying_0 : decode cX10_bestDaysByTrying 0 = .ok (.aload_n 0, 1) := by decide +kernel
theorem dX10_bestDaysByTrying_1 : decode cX10_bestDaysByTrying 1 = .ok (.iload_n 1, 1) := by decide +kernel
theorem dX10_bestDaysByTrying_2 : decode cX10_bestDaysByTrying 2 = .ok (.invokevirtual 122, 3) := by decide +kernel
theorem dX10_bestDaysByTrying_5 : decode cX10_bestDaysByTrying 5 = .ok (.ireturn, 1) := by decide +kernel
theorem dX10_bestDaysStart_0 : decode cX10_bestDaysStart 0 = .ok (.aload_n 0, 1) := by decide +kernel
theorem dX10_bestDaysStart_1 : decode cX10_bestDaysStart 1 = .ok (.iload_n 1, 1) := by decide +kernel
theorem dX10_bestDaysStart_2 : decode cX10_bestDaysStart 2 = .ok (.invokevirtual 116, 3) := by decide +kernel
theorem dX10_bestDaysStart_5 : decode cX10_bestDaysStart 5 = .ok (.ifCond .eq 7, 3) := by decide +kernel
theorem dX10_bestDaysStart_8 : decode cX10_bestDaysStart 8 = .ok (.iconst 0, 1) := by decide +kernel
theorem dX10_bestDaysStart_9 : decode cX10_bestDaysStart 9 = .ok (.goto 8, 3) := by decide +kernel
theorem dX10_bestDaysStart_12 : decode cX10_bestDaysStart 12 = .ok (.aload_n 0, 1) := by decide +kernel
theorem dX10_bestDaysStart_13 : decode cX10_bestDaysStart 13 = .ok (.iload_n 1, 1) := by decide +kernel
theorem dX10_bestDaysStart_14 : decode cX10_bestDaysStart 14 = .ok (.invokevirtual 119, 3) := by decide +kernel
theorem dX10_bestDaysStart_17 : decode cX10_bestDaysStart 17 = .ok (.ireturn, 1) := by decide +kernel
theorem dX10_intensity_0 : decode cX10_intensity 0 = .ok (.iload_n 2, 1) := by decide +kernel
theorem dX10_intensity_1 : decode cX10_intensity 1 = .ok (.istore_n 3, 1) := by decide +kernel
theorem dX10_intensity_2 : decode cX10_intensity 2 = .ok (.iconst 0, 1) := by decide +kernel
theorem dX10_intensity_3 : decode cX10_intensity 3 = .ok (.istore 4, 2) := by decide +kernel
theorem dX10_intensity_5 : decode cX10_intensity 5 = .ok (.iload_n 3, 1) := by decide +kernel
theorem dX10_intensity_6 : decode cX10_intensity 6 = .ok (.aload_n 0, 1) := by decide +kernel
theorem dX10_intensity_7 : decode cX10_intensity 7 = .ok (.getfield 9, 3) := by decide +kernel
theorem dX10_intensity_10 : decode cX10_intensity 10 = .ok (.aload_n 0, 1) := by decide +kernel
theorem dX10_intensity_11 : decode cX10_intensity 11 = .ok (.iload_n 1, 1) := by decide +kernel
theorem dX10_intensity_12 : decode cX10_intensity 12 = .ok (.invokevirtual 75, 3) := by decide +kernel
theorem dX10_intensity_15 : decode cX10_intensity 15 = .ok (.iconst 3, 1) := by decide +kernel
theorem dX10_intensity_16 : decode cX10_intensity 16 = .ok (.iadd, 1) := by decide +kernel
theorem dX10_intensity_17 : decode cX10_intensity 17 = .ok (.iload 4, 2) := by decide +kernel
theorem dX10_intensity_19 : decode cX10_intensity 19 = .ok (.iadd, 1) := by decide +kernel
theorem dX10_intensity_20 : decode cX10_intensity 20 = .ok (.iaload, 1) := by decide +kernel
theorem dX10_intensity_21 : decode cX10_intensity 21 = .ok (.if_icmp .lt 27, 3) := by decide +kernel
theorem dX10_intensity_24 : decode cX10_intensity 24 = .ok (.iload_n 3, 1) := by decide +kernel
theorem dX10_intensity_25 : decode cX10_intensity 25 = .ok (.aload_n 0, 1) := by decide +kernel
theorem dX10_intensity_26 : decode cX10_intensity 26 = .ok (.getfield 9, 3) := by decide +kernel
theorem dX10_intensity_29 : decode cX10_intensity 29 = .ok (.aload_n 0, 1) := by decide +kernel
theorem dX10_intensity_30 : decode cX10_intensity 30 = .ok (.iload_n 1, 1) := by decide +kernel
theorem dX10_intensity_31 : decode cX10_intensity 31 = .ok (.invokevirtual 75, 3) := by decide +kernel
theorem dX10_intensity_34 : decode cX10_intensity 34 = .ok (.iconst 3, 1) := by decide +kernel
theorem dX10_intensity_35 : decode cX10_intensity 35 = .ok (.iadd, 1) := by decide +kernel
theorem dX10_intensity_36 : decode cX10_intensity 36 = .ok (.iload 4, 2) := by decide +kernel
theorem dX10_intensity_38 : decode cX10_intensity 38 = .ok (.iadd, 1) := by decide +kernel
theorem dX10_intensity_39 : decode cX10_intensity 39 = .ok (.iaload, 1) := by decide +kernel
theorem dX10_intensity_40 : decode cX10_intensity 40 = .ok (.isub, 1) := by decide +kernel
theorem dX10_intensity_41 : decode cX10_intensity 41 = .ok (.istore_n 3, 1) := by decide +kernel
theorem dX10_intensity_42 : decode cX10_intensity 42 = .ok (.iinc 4 1, 3) := by decide +kernel
theorem dX10_intensity_45 : decode cX10_intensity 45 = .ok (.goto (-40), 3) := by decide +kernel
theorem dX10_intensity_48 : decode cX10_intensity 48 = .ok (.aload_n 0, 1) := by decide +kernel
theorem dX10_intensity_49 : decode cX10_intensity 49 = .ok (.getfield 9, 3) := by decide +kernel
theorem dX10_intensity_52 : decode cX10_intensity 52 = .ok (.aload_n 0, 1) := by decide +kernel
theorem dX10_intensity_53 : decode cX10_intensity 53 = .ok (.iload_n 1, 1) := by decide +kernel
theorem dX10_intensity_54 : decode cX10_intensity 54 = .ok (.invokevirtual 75, 3) := by decide +kernel
theorem dX10_intensity_57 : decode cX10_intensity 57 = .ok (.iconst 3, 1) := by decide +kernel
theorem dX10_intensity_58 : decode cX10_intensity 58 = .ok (.iadd, 1) := by decide +kernel
theorem dX10_intensity_59 : decode cX10_intensity 59 = .ok (.bipush 8, 2) := by decide +kernel
theorem dX10_intensity_61 : decode cX10_intensity 61 = .ok (.iadd, 1) := by decide +kernel
theorem dX10_intensity_62 : decode cX10_intensity 62 = .ok (.iload 4, 2) := by decide +kernel
theorem dX10_intensity_64 : decode cX10_intensity 64 = .ok (.iadd, 1) := by decide +kernel
theorem dX10_intensity_65 : decode cX10_intensity 65 = .ok (.iaload, 1) := by decide +kernel
theorem dX10_intensity_66 : decode cX10_intensity 66 = .ok (.ireturn, 1) := by decide +kernel
theorem dX10_effort_0 : decode cX10_effort 0 = .ok (.aload_n 0, 1) := by decide +kernel
theorem dX10_effort_1 : decode cX10_effort 1 = .ok (.iload_n 1, 1) := by decide +kernel
theorem dX10_effort_2 : decode cX10_effort 2 = .ok (.invokevirtual 87, 3) := by decide +kernel
theorem dX10_effort_5 : decode cX10_effort 5 = .ok (.istore_n 3, 1) := by decide +kernel
theorem dX10_effort_6 : decode cX10_effort 6 = .ok (.iconst (-1), 1) := by decide +kernel
theorem dX10_effort_7 : decode cX10_effort 7 = .ok (.istore 4, 2) := by decide +kernel
theorem dX10_effort_9 : decode cX10_effort 9 = .ok (.iconst 0, 1) := by decide +kernel
theorem dX10_effort_10 : decode cX10_effort 10 = .ok (.istore 5, 2) := by decide +kernel
theorem dX10_effort_12 : decode cX10_effort 12 = .ok (.iconst 0, 1) := by decide +kernel
theorem dX10_effort_13 : decode cX10_effort 13 = .ok (.istore 6, 2) := by decide +kernel
theorem dX10_effort_15 : decode cX10_effort 15 = .ok (.iload 6, 2) := by decide +kernel
theorem dX10_effort_17 : decode cX10_effort 17 = .ok (.iload_n 3, 1) := by decide +kernel
theorem dX10_effort_18 : decode cX10_effort 18 = .ok (.if_icmp .ge 63, 3) := by decide +kernel
theorem dX10_effort_21 : decode cX10_effort 21 = .ok (.iload 5, 2) := by decide +kernel
theorem dX10_effort_23 : decode cX10_effort 23 = .ok (.aload_n 0, 1) := by decide +kernel
theorem dX10_effort_24 : decode cX10_effort 24 = .ok (.iload_n 1, 1) := by decide +kernel
theorem dX10_effort_25 : decode cX10_effort 25 = .ok (.iload 6, 2) := by decide +kernel
theorem dX10_effort_27 : decode cX10_effort 27 = .ok (.invokevirtual 125, 3) := by decide +kernel
theorem dX10_effort_30 : decode cX10_effort 30 = .ok (.iload 6, 2) := by decide +kernel
theorem dX10_effort_32 : decode cX10_effort 32 = .ok (.iload_n 2, 1) := by decide +kernel
theorem dX10_effort_33 : decode cX10_effort 33 = .ok (.if_icmp .ge 7, 3) := by decide +kernel
theorem dX10_effort_36 : decode cX10_effort 36 = .ok (.iconst 0, 1) := by decide +kernel
theorem dX10_effort_37 : decode cX10_effort 37 = .ok (.goto 12, 3) := by decide +kernel
theorem dX10_effort_40 : decode cX10_effort 40 = .ok (.aload_n 0, 1) := by decide +kernel
theorem dX10_effort_41 : decode cX10_effort 41 = .ok (.iload_n 1, 1) := by decide +kernel
theorem dX10_effort_42 : decode cX10_effort 42 = .ok (.iload 6, 2) := by decide +kernel
theorem dX10_effort_44 : decode cX10_effort 44 = .ok (.iload_n 2, 1) := by decide +kernel
theorem dX10_effort_45 : decode cX10_effort 45 = .ok (.isub, 1) := by decide +kernel
theorem dX10_effort_46 : decode cX10_effort 46 = .ok (.invokevirtual 125, 3) := by decide +kernel
theorem dX10_effort_49 : decode cX10_effort 49 = .ok (.isub, 1) := by decide +kernel
theorem dX10_effort_50 : decode cX10_effort 50 = .ok (.iadd, 1) := by decide +kernel
theorem dX10_effort_51 : decode cX10_effort 51 = .ok (.istore 5, 2) := by decide +kernel
theorem dX10_effort_53 : decode cX10_effort 53 = .ok (.iload 6, 2) := by decide +kernel
theorem dX10_effort_55 : decode cX10_effort 55 = .ok (.iload_n 2, 1) := by decide +kernel
theorem dX10_effort_56 : decode cX10_effort 56 = .ok (.iconst 1, 1) := by decide +kernel
theorem dX10_effort_57 : decode cX10_effort 57 = .ok (.isub, 1) := by decide +kernel
theorem dX10_effort_58 : decode cX10_effort 58 = .ok (.if_icmp .lt 13, 3) := by decide +kernel
theorem dX10_effort_61 : decode cX10_effort 61 = .ok (.iload 4, 2) := by decide +kernel
theorem dX10_effort_63 : decode cX10_effort 63 = .ok (.iload 5, 2) := by decide +kernel
theorem dX10_effort_65 : decode cX10_effort 65 = .ok (.invokestatic 128, 3) := by decide +kernel
theorem dX10_effort_68 : decode cX10_effort 68 = .ok (.goto 5, 3) := by decide +kernel
theorem dX10_effort_71 : decode cX10_effort 71 = .ok (.iload 4, 2) := by decide +kernel
theorem dX10_effort_73 : decode cX10_effort 73 = .ok (.istore 4, 2) := by decide +kernel
theorem dX10_effort_75 : decode cX10_effort 75 = .ok (.iinc 6 1, 3) := by decide +kernel
theorem dX10_effort_78 : decode cX10_effort 78 = .ok (.goto (-63), 3) := by decide +kernel
theorem dX10_effort_81 : decode cX10_effort 81 = .ok (.iload 4, 2) := by decide +kernel
theorem dX10_effort_83 : decode cX10_effort 83 = .ok (.ireturn, 1) := by decide +kernel
theorem dX10_strongest_0 : decode cX10_strongest 0 = .ok (.iconst (-1), 1) := by decide +kernel
theorem dX10_strongest_1 : decode cX10_strongest 1 = .ok (.istore_n 2, 1) := by decide +kernel
theorem dX10_strongest_2 : decode cX10_strongest 2 = .ok (.iconst 0, 1) := by decide +kernel
theorem dX10_strongest_3 : decode cX10_strongest 3 = .ok (.istore_n 3, 1) := by decide +kernel
theorem dX10_strongest_4 : decode cX10_strongest 4 = .ok (.iload_n 3, 1) := by decide +kernel
theorem dX10_strongest_5 : decode cX10_strongest 5 = .ok (.aload_n 0, 1) := by decide +kernel
theorem dX10_strongest_6 : decode cX10_strongest 6 = .ok (.getfield 9, 3) := by decide +kernel
theorem dX10_strongest_9 : decode cX10_strongest 9 = .ok (.iconst 2, 1) := by decide +kernel
theorem dX10_strongest_10 : decode cX10_strongest 10 = .ok (.iaload, 1) := by decide +kernel
theorem dX10_strongest_11 : decode cX10_strongest 11 = .ok (.if_icmp .ge 52, 3) := by decide +kernel
theorem dX10_strongest_14 : decode cX10_strongest 14 = .ok (.aload_n 0, 1) := by decide +kernel
theorem dX10_strongest_15 : decode cX10_strongest 15 = .ok (.iload_n 3, 1) := by decide +kernel
theorem dX10_strongest_16 : decode cX10_strongest 16 = .ok (.invokevirtual 93, 3) := by decide +kernel
theorem dX10_strongest_19 : decode cX10_strongest 19 = .ok (.istore 4, 2) := by decide +kernel
theorem dX10_strongest_21 : decode cX10_strongest 21 = .ok (.aload_n 0, 1) := by decide +kernel
theorem dX10_strongest_22 : decode cX10_strongest 22 = .ok (.iload 4, 2) := by decide +kernel
theorem dX10_strongest_24 : decode cX10_strongest 24 = .ok (.iload_n 1, 1) := by decide +kernel
theorem dX10_strongest_25 : decode cX10_strongest 25 = .ok (.invokevirtual 131, 3) := by decide +kernel
theorem dX10_strongest_28 : decode cX10_strongest 28 = .ok (.istore 5, 2) := by decide +kernel
theorem dX10_strongest_30 : decode cX10_strongest 30 = .ok (.iload 5, 2) := by decide +kernel
theorem dX10_strongest_32 : decode cX10_strongest 32 = .ok (.ifCond .lt 23, 3) := by decide +kernel
theorem dX10_strongest_35 : decode cX10_strongest 35 = .ok (.iload_n 2, 1) := by decide +kernel
theorem dX10_strongest_36 : decode cX10_strongest 36 = .ok (.ifCond .lt 14, 3) := by decide +kernel
theorem dX10_strongest_39 : decode cX10_strongest 39 = .ok (.iload 5, 2) := by decide +kernel
theorem dX10_strongest_41 : decode cX10_strongest 41 = .ok (.aload_n 0, 1) := by decide +kernel
theorem dX10_strongest_42 : decode cX10_strongest 42 = .ok (.iload_n 2, 1) := by decide +kernel
theorem dX10_strongest_43 : decode cX10_strongest 43 = .ok (.iload_n 1, 1) := by decide +kernel
theorem dX10_strongest_44 : decode cX10_strongest 44 = .ok (.invokevirtual 131, 3) := by decide +kernel
theorem dX10_strongest_47 : decode cX10_strongest 47 = .ok (.if_icmp .le 8, 3) := by decide +kernel
theorem dX10_strongest_50 : decode cX10_strongest 50 = .ok (.iload 4, 2) := by decide +kernel
theorem dX10_strongest_52 : decode cX10_strongest 52 = .ok (.goto 4, 3) := by decide +kernel
theorem dX10_strongest_55 : decode cX10_strongest 55 = .ok (.iload_n 2, 1) := by decide +kernel
theorem dX10_strongest_56 : decode cX10_strongest 56 = .ok (.istore_n 2, 1) := by decide +kernel
theorem dX10_strongest_57 : decode cX10_strongest 57 = .ok (.iinc 3 1, 3) := by decide +kernel
theorem dX10_strongest_60 : decode cX10_strongest 60 = .ok (.goto (-56), 3) := by decide +kernel
theorem dX10_strongest_63 : decode cX10_strongest 63 = .ok (.iload_n 2, 1) := by decide +kernel
theorem dX10_strongest_64 : decode cX10_strongest 64 = .ok (.ireturn, 1) := by decide +kernel
theorem dX10_isNoEffort_0 : decode cX10_isNoEffort 0 = .ok (.aload_n 0, 1) := by decide +kernel
theorem dX10_isNoEffort_1 : decode cX10_isNoEffort 1 = .ok (.iload_n 1, 1) := by decide +kernel
theorem dX10_isNoEffort_2 : decode cX10_isNoEffort 2 = .ok (.iconst 1, 1) := by decide +kernel
theorem dX10_isNoEffort_3 : decode cX10_isNoEffort 3 = .ok (.sipush 240, 3) := by decide +kernel
theorem dX10_isNoEffort_6 : decode cX10_isNoEffort 6 = .ok (.invokestatic 47, 3) := by decide +kernel
theorem dX10_isNoEffort_9 : decode cX10_isNoEffort 9 = .ok (.ifCond .ne 7, 3) := by decide +kernel
theorem dX10_isNoEffort_12 : decode cX10_isNoEffort 12 = .ok (.iconst 1, 1) := by decide +kernel
theorem dX10_isNoEffort_13 : decode cX10_isNoEffort 13 = .ok (.goto 4, 3) := by decide +kernel
theorem dX10_isNoEffort_16 : decode cX10_isNoEffort 16 = .ok (.iconst 0, 1) := by decide +kernel
theorem dX10_isNoEffort_17 : decode cX10_isNoEffort 17 = .ok (.iconst 1, 1) := by decide +kernel
theorem dX10_isNoEffort_18 : decode cX10_isNoEffort 18 = .ok (.invokevirtual 51, 3) := by decide +kernel
theorem dX10_isNoEffort_21 : decode cX10_isNoEffort 21 = .ok (.ifCond .ne 24, 3) := by decide +kernel
theorem dX10_isNoEffort_24 : decode cX10_isNoEffort 24 = .ok (.aload_n 0, 1) := by decide +kernel
theorem dX10_isNoEffort_25 : decode cX10_isNoEffort 25 = .ok (.aload_n 0, 1) := by decide +kernel
theorem dX10_isNoEffort_26 : decode cX10_isNoEffort 26 = .ok (.iload_n 1, 1) := by decide +kernel
theorem dX10_isNoEffort_27 : decode cX10_isNoEffort 27 = .ok (.invokevirtual 134, 3) := by decide +kernel
theorem dX10_isNoEffort_30 : decode cX10_isNoEffort 30 = .ok (.ifCond .ge 7, 3) := by decide +kernel
theorem dX10_isNoEffort_33 : decode cX10_isNoEffort 33 = .ok (.iconst 1, 1) := by decide +kernel
theorem dX10_isNoEffort_34 : decode cX10_isNoEffort 34 = .ok (.goto 4, 3) := by decide +kernel
theorem dX10_isNoEffort_37 : decode cX10_isNoEffort 37 = .ok (.iconst 0, 1) := by decide +kernel
theorem dX10_isNoEffort_38 : decode cX10_isNoEffort 38 = .ok (.iconst 2, 1) := by decide +kernel
theorem dX10_isNoEffort_39 : decode cX10_isNoEffort 39 = .ok (.invokevirtual 51, 3) := by decide +kernel
theorem dX10_isNoEffort_42 : decode cX10_isNoEffort 42 = .ok (.ifCond .eq 7, 3) := by decide +kernel
theorem dX10_isNoEffort_45 : decode cX10_isNoEffort 45 = .ok (.iconst 1, 1) := by decide +kernel
theorem dX10_isNoEffort_46 : decode cX10_isNoEffort 46 = .ok (.goto 4, 3) := by decide +kernel
theorem dX10_isNoEffort_49 : decode cX10_isNoEffort 49 = .ok (.iconst 0, 1) := by decide +kernel
theorem dX10_isNoEffort_50 : decode cX10_isNoEffort 50 = .ok (.ireturn, 1) := by decide +kernel
theorem dX10_bestEffort_0 : decode cX10_bestEffort 0 = .ok (.aload_n 0, 1) := by decide +kernel
theorem dX10_bestEffort_1 : decode cX10_bestEffort 1 = .ok (.iload_n 1, 1) := by decide +kernel
theorem dX10_bestEffort_2 : decode cX10_bestEffort 2 = .ok (.invokevirtual 137, 3) := by decide +kernel
theorem dX10_bestEffort_5 : decode cX10_bestEffort 5 = .ok (.ifCond .eq 7, 3) := by decide +kernel
theorem dX10_bestEffort_8 : decode cX10_bestEffort 8 = .ok (.iconst 0, 1) := by decide +kernel
theorem dX10_bestEffort_9 : decode cX10_bestEffort 9 = .ok (.goto 13, 3) := by decide +kernel
theorem dX10_bestEffort_12 : decode cX10_bestEffort 12 = .ok (.aload_n 0, 1) := by decide +kernel
theorem dX10_bestEffort_13 : decode cX10_bestEffort 13 = .ok (.aload_n 0, 1) := by decide +kernel
theorem dX10_bestEffort_14 : decode cX10_bestEffort 14 = .ok (.iload_n 1, 1) := by decide +kernel
theorem dX10_bestEffort_15 : decode cX10_bestEffort 15 = .ok (.invokevirtual 134, 3) := by decide +kernel
theorem dX10_bestEffort_18 : decode cX10_bestEffort 18 = .ok (.iload_n 1, 1) := by decide +kernel
theorem dX10_bestEffort_19 : decode cX10_bestEffort 19 = .ok (.invokevirtual 131, 3) := by decide +kernel
theorem dX10_bestEffort_22 : decode cX10_bestEffort 22 = .ok (.ireturn, 1) := by decide +kernel
theorem dX10_bestEffortByTrying_0 : decode cX10_bestEffortByTrying 0 = .ok (.aload_n 0, 1) := by decide +kernel
theorem dX10_bestEffortByTrying_1 : decode cX10_bestEffortByTrying 1 = .ok (.iload_n 1, 1) := by decide +kernel
theorem dX10_bestEffortByTrying_2 : decode cX10_bestEffortByTrying 2 = .ok (.invokevirtual 140, 3) := by decide +kernel
theorem dX10_bestEffortByTrying_5 : decode cX10_bestEffortByTrying 5 = .ok (.ireturn, 1) := by decide +kernel
theorem dX10_bestEffortSession_0 : decode cX10_bestEffortSession 0 = .ok (.aload_n 0, 1) := by decide +kernel
theorem dX10_bestEffortSession_1 : decode cX10_bestEffortSession 1 = .ok (.iload_n 1, 1) := by decide +kernel
theorem dX10_bestEffortSession_2 : decode cX10_bestEffortSession 2 = .ok (.invokevirtual 137, 3) := by decide +kernel
theorem dX10_bestEffortSession_5 : decode cX10_bestEffortSession 5 = .ok (.ifCond .eq 7, 3) := by decide +kernel
theorem dX10_bestEffortSession_8 : decode cX10_bestEffortSession 8 = .ok (.iconst 0, 1) := by decide +kernel
theorem dX10_bestEffortSession_9 : decode cX10_bestEffortSession 9 = .ok (.goto 17, 3) := by decide +kernel
theorem dX10_bestEffortSession_12 : decode cX10_bestEffortSession 12 = .ok (.aload_n 0, 1) := by decide +kernel
theorem dX10_bestEffortSession_13 : decode cX10_bestEffortSession 13 = .ok (.getfield 9, 3) := by decide +kernel
theorem dX10_bestEffortSession_16 : decode cX10_bestEffortSession 16 = .ok (.aload_n 0, 1) := by decide +kernel
theorem dX10_bestEffortSession_17 : decode cX10_bestEffortSession 17 = .ok (.aload_n 0, 1) := by decide +kernel
theorem dX10_bestEffortSession_18 : decode cX10_bestEffortSession 18 = .ok (.iload_n 1, 1) := by decide +kernel
theorem dX10_bestEffortSession_19 : decode cX10_bestEffortSession 19 = .ok (.invokevirtual 134, 3) := by decide +kernel
theorem dX10_bestEffortSession_22 : decode cX10_bestEffortSession 22 = .ok (.invokevirtual 75, 3) := by decide +kernel
theorem dX10_bestEffortSession_25 : decode cX10_bestEffortSession 25 = .ok (.iaload, 1) := by decide +kernel
theorem dX10_bestEffortSession_26 : decode cX10_bestEffortSession 26 = .ok (.ireturn, 1) := by decide +kernel
theorem dX10_startPlan_0 : decode cX10_startPlan 0 = .ok (.aload_n 0, 1) := by decide +kernel
theorem dX10_startPlan_1 : decode cX10_startPlan 1 = .ok (.iconst 0, 1) := by decide +kernel
theorem dX10_startPlan_2 : decode cX10_startPlan 2 = .ok (.putfield 31, 3) := by decide +kernel
theorem dX10_startPlan_5 : decode cX10_startPlan 5 = .ok (.aload_n 0, 1) := by decide +kernel
theorem dX10_startPlan_6 : decode cX10_startPlan 6 = .ok (.invokevirtual 55, 3) := by decide +kernel
theorem dX10_startPlan_9 : decode cX10_startPlan 9 = .ok (.aload_n 0, 1) := by decide +kernel
theorem dX10_startPlan_10 : decode cX10_startPlan 10 = .ok (.getfield 9, 3) := by decide +kernel
theorem dX10_startPlan_13 : decode cX10_startPlan 13 = .ok (.iconst 4, 1) := by decide +kernel
theorem dX10_startPlan_14 : decode cX10_startPlan 14 = .ok (.iaload, 1) := by decide +kernel
theorem dX10_startPlan_15 : decode cX10_startPlan 15 = .ok (.iconst 1, 1) := by decide +kernel
theorem dX10_startPlan_16 : decode cX10_startPlan 16 = .ok (.if_icmp .ne 13, 3) := by decide +kernel
theorem dX10_startPlan_19 : decode cX10_startPlan 19 = .ok (.aload_n 0, 1) := by decide +kernel
theorem dX10_startPlan_20 : decode cX10_startPlan 20 = .ok (.getfield 9, 3) := by decide +kernel
theorem dX10_startPlan_23 : decode cX10_startPlan 23 = .ok (.bipush 6, 2) := by decide +kernel
theorem dX10_startPlan_25 : decode cX10_startPlan 25 = .ok (.iaload, 1) := by decide +kernel
theorem dX10_startPlan_26 : decode cX10_startPlan 26 = .ok (.goto 4, 3) := by decide +kernel
theorem dX10_startPlan_29 : decode cX10_startPlan 29 = .ok (.iconst 0, 1) := by decide +kernel
theorem dX10_startPlan_30 : decode cX10_startPlan 30 = .ok (.istore_n 1, 1) := by decide +kernel
theorem dX10_startPlan_31 : decode cX10_startPlan 31 = .ok (.aload_n 0, 1) := by decide +kernel
theorem dX10_startPlan_32 : decode cX10_startPlan 32 = .ok (.getfield 9, 3) := by decide +kernel
theorem dX10_startPlan_35 : decode cX10_startPlan 35 = .ok (.iconst 4, 1) := by decide +kernel
theorem dX10_startPlan_36 : decode cX10_startPlan 36 = .ok (.iconst 1, 1) := by decide +kernel
theorem dX10_startPlan_37 : decode cX10_startPlan 37 = .ok (.iastore, 1) := by decide +kernel
theorem dX10_startPlan_38 : decode cX10_startPlan 38 = .ok (.aload_n 0, 1) := by decide +kernel
theorem dX10_startPlan_39 : decode cX10_startPlan 39 = .ok (.getfield 9, 3) := by decide +kernel
theorem dX10_startPlan_42 : decode cX10_startPlan 42 = .ok (.iconst 5, 1) := by decide +kernel
theorem dX10_startPlan_43 : decode cX10_startPlan 43 = .ok (.aload_n 0, 1) := by decide +kernel
theorem dX10_startPlan_44 : decode cX10_startPlan 44 = .ok (.getfield 9, 3) := by decide +kernel
theorem dX10_startPlan_47 : decode cX10_startPlan 47 = .ok (.iconst 0, 1) := by decide +kernel
theorem dX10_startPlan_48 : decode cX10_startPlan 48 = .ok (.iaload, 1) := by decide +kernel
theorem dX10_startPlan_49 : decode cX10_startPlan 49 = .ok (.iastore, 1) := by decide +kernel
theorem dX10_startPlan_50 : decode cX10_startPlan 50 = .ok (.aload_n 0, 1) := by decide +kernel
theorem dX10_startPlan_51 : decode cX10_startPlan 51 = .ok (.getfield 9, 3) := by decide +kernel
theorem dX10_startPlan_54 : decode cX10_startPlan 54 = .ok (.bipush 6, 2) := by decide +kernel
theorem dX10_startPlan_56 : decode cX10_startPlan 56 = .ok (.iconst 0, 1) := by decide +kernel
theorem dX10_startPlan_57 : decode cX10_startPlan 57 = .ok (.iastore, 1) := by decide +kernel
theorem dX10_startPlan_58 : decode cX10_startPlan 58 = .ok (.iload_n 1, 1) := by decide +kernel
theorem dX10_startPlan_59 : decode cX10_startPlan 59 = .ok (.ireturn, 1) := by decide +kernel
theorem dX10_addTarget_0 : decode cX10_addTarget 0 = .ok (.aload_n 0, 1) := by decide +kernel
theorem dX10_addTarget_1 : decode cX10_addTarget 1 = .ok (.iload_n 1, 1) := by decide +kernel
theorem dX10_addTarget_2 : decode cX10_addTarget 2 = .ok (.iconst 0, 1) := by decide +kernel
theorem dX10_addTarget_3 : decode cX10_addTarget 3 = .ok (.sipush 20000, 3) := by decide +kernel
theorem dX10_addTarget_6 : decode cX10_addTarget 6 = .ok (.invokestatic 47, 3) := by decide +kernel
theorem dX10_addTarget_9 : decode cX10_addTarget 9 = .ok (.ifCond .ne 7, 3) := by decide +kernel
theorem dX10_addTarget_12 : decode cX10_addTarget 12 = .ok (.iconst 1, 1) := by decide +kernel
theorem dX10_addTarget_13 : decode cX10_addTarget 13 = .ok (.goto 4, 3) := by decide +kernel
theorem dX10_addTarget_16 : decode cX10_addTarget 16 = .ok (.iconst 0, 1) := by decide +kernel
theorem dX10_addTarget_17 : decode cX10_addTarget 17 = .ok (.iconst 1, 1) := by decide +kernel
theorem dX10_addTarget_18 : decode cX10_addTarget 18 = .ok (.invokevirtual 51, 3) := by decide +kernel
theorem dX10_addTarget_21 : decode cX10_addTarget 21 = .ok (.ifCond .ne 52, 3) := by decide +kernel
theorem dX10_addTarget_24 : decode cX10_addTarget 24 = .ok (.aload_n 0, 1) := by decide +kernel
theorem dX10_addTarget_25 : decode cX10_addTarget 25 = .ok (.aload_n 0, 1) := by decide +kernel
theorem dX10_addTarget_26 : decode cX10_addTarget 26 = .ok (.getfield 9, 3) := by decide +kernel
theorem dX10_addTarget_29 : decode cX10_addTarget 29 = .ok (.iconst 4, 1) := by decide +kernel
theorem dX10_addTarget_30 : decode cX10_addTarget 30 = .ok (.iaload, 1) := by decide +kernel
theorem dX10_addTarget_31 : decode cX10_addTarget 31 = .ok (.ifCond .eq 30, 3) := by decide +kernel
theorem dX10_addTarget_34 : decode cX10_addTarget 34 = .ok (.aload_n 0, 1) := by decide +kernel
theorem dX10_addTarget_35 : decode cX10_addTarget 35 = .ok (.getfield 9, 3) := by decide +kernel
theorem dX10_addTarget_38 : decode cX10_addTarget 38 = .ok (.iconst 5, 1) := by decide +kernel
theorem dX10_addTarget_39 : decode cX10_addTarget 39 = .ok (.iaload, 1) := by decide +kernel
theorem dX10_addTarget_40 : decode cX10_addTarget 40 = .ok (.aload_n 0, 1) := by decide +kernel
theorem dX10_addTarget_41 : decode cX10_addTarget 41 = .ok (.getfield 9, 3) := by decide +kernel
theorem dX10_addTarget_44 : decode cX10_addTarget 44 = .ok (.iconst 0, 1) := by decide +kernel
theorem dX10_addTarget_45 : decode cX10_addTarget 45 = .ok (.iaload, 1) := by decide +kernel
theorem dX10_addTarget_46 : decode cX10_addTarget 46 = .ok (.if_icmp .ne 15, 3) := by decide +kernel
theorem dX10_addTarget_49 : decode cX10_addTarget 49 = .ok (.aload_n 0, 1) := by decide +kernel
theorem dX10_addTarget_50 : decode cX10_addTarget 50 = .ok (.getfield 9, 3) := by decide +kernel
theorem dX10_addTarget_53 : decode cX10_addTarget 53 = .ok (.bipush 6, 2) := by decide +kernel
theorem dX10_addTarget_55 : decode cX10_addTarget 55 = .ok (.iaload, 1) := by decide +kernel
theorem dX10_addTarget_56 : decode cX10_addTarget 56 = .ok (.bipush 28, 2) := by decide +kernel
theorem dX10_addTarget_58 : decode cX10_addTarget 58 = .ok (.if_icmp .ne 7, 3) := by decide +kernel
theorem dX10_addTarget_61 : decode cX10_addTarget 61 = .ok (.iconst 1, 1) := by decide +kernel
theorem dX10_addTarget_62 : decode cX10_addTarget 62 = .ok (.goto 4, 3) := by decide +kernel
theorem dX10_addTarget_65 : decode cX10_addTarget 65 = .ok (.iconst 0, 1) := by decide +kernel
theorem dX10_addTarget_66 : decode cX10_addTarget 66 = .ok (.iconst 2, 1) := by decide +kernel
theorem dX10_addTarget_67 : decode cX10_addTarget 67 = .ok (.invokevirtual 51, 3) := by decide +kernel
theorem dX10_addTarget_70 : decode cX10_addTarget 70 = .ok (.ifCond .eq 5, 3) := by decide +kernel
theorem dX10_addTarget_73 : decode cX10_addTarget 73 = .ok (.iconst 0, 1) := by decide +kernel
theorem dX10_addTarget_74 : decode cX10_addTarget 74 = .ok (.ireturn, 1) := by decide +kernel
theorem dX10_addTarget_75 : decode cX10_addTarget 75 = .ok (.aload_n 0, 1) := by decide +kernel
theorem dX10_addTarget_76 : decode cX10_addTarget 76 = .ok (.invokevirtual 55, 3) := by decide +kernel
theorem dX10_addTarget_79 : decode cX10_addTarget 79 = .ok (.aload_n 0, 1) := by decide +kernel
theorem dX10_addTarget_80 : decode cX10_addTarget 80 = .ok (.getfield 9, 3) := by decide +kernel
theorem dX10_addTarget_83 : decode cX10_addTarget 83 = .ok (.bipush 40, 2) := by decide +kernel
theorem dX10_addTarget_85 : decode cX10_addTarget 85 = .ok (.aload_n 0, 1) := by decide +kernel
theorem dX10_addTarget_86 : decode cX10_addTarget 86 = .ok (.getfield 9, 3) := by decide +kernel
theorem dX10_addTarget_89 : decode cX10_addTarget 89 = .ok (.bipush 6, 2) := by decide +kernel
theorem dX10_addTarget_91 : decode cX10_addTarget 91 = .ok (.iaload, 1) := by decide +kernel
theorem dX10_addTarget_92 : decode cX10_addTarget 92 = .ok (.iadd, 1) := by decide +kernel
theorem dX10_addTarget_93 : decode cX10_addTarget 93 = .ok (.iload_n 1, 1) := by decide +kernel
theorem dX10_addTarget_94 : decode cX10_addTarget 94 = .ok (.iastore, 1) := by decide +kernel
theorem dX10_addTarget_95 : decode cX10_addTarget 95 = .ok (.aload_n 0, 1) := by decide +kernel
theorem dX10_addTarget_96 : decode cX10_addTarget 96 = .ok (.getfield 9, 3) := by decide +kernel
theorem dX10_addTarget_99 : decode cX10_addTarget 99 = .ok (.bipush 6, 2) := by decide +kernel
theorem dX10_addTarget_101 : decode cX10_addTarget 101 = .ok (.dup2, 1) := by decide +kernel
theorem dX10_addTarget_102 : decode cX10_addTarget 102 = .ok (.iaload, 1) := by decide +kernel
theorem dX10_addTarget_103 : decode cX10_addTarget 103 = .ok (.iconst 1, 1) := by decide +kernel
theorem dX10_addTarget_104 : decode cX10_addTarget 104 = .ok (.iadd, 1) := by decide +kernel
theorem dX10_addTarget_105 : decode cX10_addTarget 105 = .ok (.iastore, 1) := by decide +kernel
theorem dX10_addTarget_106 : decode cX10_addTarget 106 = .ok (.aload_n 0, 1) := by decide +kernel
theorem dX10_addTarget_107 : decode cX10_addTarget 107 = .ok (.getfield 9, 3) := by decide +kernel
theorem dX10_addTarget_110 : decode cX10_addTarget 110 = .ok (.bipush 6, 2) := by decide +kernel
theorem dX10_addTarget_112 : decode cX10_addTarget 112 = .ok (.iaload, 1) := by decide +kernel
theorem dX10_addTarget_113 : decode cX10_addTarget 113 = .ok (.ireturn, 1) := by decide +kernel
theorem dX10_targetAt_0 : decode cX10_targetAt 0 = .ok (.aload_n 0, 1) := by decide +kernel
theorem dX10_targetAt_1 : decode cX10_targetAt 1 = .ok (.aload_n 0, 1) := by decide +kernel
theorem dX10_targetAt_2 : decode cX10_targetAt 2 = .ok (.getfield 9, 3) := by decide +kernel
theorem dX10_targetAt_5 : decode cX10_targetAt 5 = .ok (.iconst 4, 1) := by decide +kernel
theorem dX10_targetAt_6 : decode cX10_targetAt 6 = .ok (.iaload, 1) := by decide +kernel
theorem dX10_targetAt_7 : decode cX10_targetAt 7 = .ok (.ifCond .eq 20, 3) := by decide +kernel
theorem dX10_targetAt_10 : decode cX10_targetAt 10 = .ok (.iload_n 1, 1) := by decide +kernel
theorem dX10_targetAt_11 : decode cX10_targetAt 11 = .ok (.iconst 0, 1) := by decide +kernel
theorem dX10_targetAt_12 : decode cX10_targetAt 12 = .ok (.aload_n 0, 1) := by decide +kernel
theorem dX10_targetAt_13 : decode cX10_targetAt 13 = .ok (.getfield 9, 3) := by decide +kernel
theorem dX10_targetAt_16 : decode cX10_targetAt 16 = .ok (.bipush 6, 2) := by decide +kernel
theorem dX10_targetAt_18 : decode cX10_targetAt 18 = .ok (.iaload, 1) := by decide +kernel
theorem dX10_targetAt_19 : decode cX10_targetAt 19 = .ok (.iconst 1, 1) := by decide +kernel
theorem dX10_targetAt_20 : decode cX10_targetAt 20 = .ok (.isub, 1) := by decide +kernel
theorem dX10_targetAt_21 : decode cX10_targetAt 21 = .ok (.invokestatic 47, 3) := by decide +kernel
theorem dX10_targetAt_24 : decode cX10_targetAt 24 = .ok (.ifCond .ne 7, 3) := by decide +kernel
theorem dX10_targetAt_27 : decode cX10_targetAt 27 = .ok (.iconst 1, 1) := by decide +kernel
theorem dX10_targetAt_28 : decode cX10_targetAt 28 = .ok (.goto 4, 3) := by decide +kernel
theorem dX10_targetAt_31 : decode cX10_targetAt 31 = .ok (.iconst 0, 1) := by decide +kernel
theorem dX10_targetAt_32 : decode cX10_targetAt 32 = .ok (.iconst 1, 1) := by decide +kernel
theorem dX10_targetAt_33 : decode cX10_targetAt 33 = .ok (.invokevirtual 51, 3) := by decide +kernel
theorem dX10_targetAt_36 : decode cX10_targetAt 36 = .ok (.ifCond .eq 7, 3) := by decide +kernel
theorem dX10_targetAt_39 : decode cX10_targetAt 39 = .ok (.iconst 0, 1) := by decide +kernel
theorem dX10_targetAt_40 : decode cX10_targetAt 40 = .ok (.goto 12, 3) := by decide +kernel
theorem dX10_targetAt_43 : decode cX10_targetAt 43 = .ok (.aload_n 0, 1) := by decide +kernel
theorem dX10_targetAt_44 : decode cX10_targetAt 44 = .ok (.getfield 9, 3) := by decide +kernel
theorem dX10_targetAt_47 : decode cX10_targetAt 47 = .ok (.bipush 40, 2) := by decide +kernel
theorem dX10_targetAt_49 : decode cX10_targetAt 49 = .ok (.iload_n 1, 1) := by decide +kernel
theorem dX10_targetAt_50 : decode cX10_targetAt 50 = .ok (.iadd, 1) := by decide +kernel
theorem dX10_targetAt_51 : decode cX10_targetAt 51 = .ok (.iaload, 1) := by decide +kernel
theorem dX10_targetAt_52 : decode cX10_targetAt 52 = .ok (.ireturn, 1) := by decide +kernel
theorem dX10_goes_0 : decode cX10_goes 0 = .ok (.aload_n 0, 1) := by decide +kernel
theorem dX10_goes_1 : decode cX10_goes 1 = .ok (.invokevirtual 96, 3) := by decide +kernel
theorem dX10_goes_4 : decode cX10_goes 4 = .ok (.aload_n 0, 1) := by decide +kernel
theorem dX10_goes_5 : decode cX10_goes 5 = .ok (.iconst 0, 1) := by decide +kernel
theorem dX10_goes_6 : decode cX10_goes 6 = .ok (.putfield 143, 3) := by decide +kernel
theorem dX10_goes_9 : decode cX10_goes 9 = .ok (.aload_n 0, 1) := by decide +kernel
theorem dX10_goes_10 : decode cX10_goes 10 = .ok (.iconst 0, 1) := by decide +kernel
theorem dX10_goes_11 : decode cX10_goes 11 = .ok (.putfield 146, 3) := by decide +kernel
theorem dX10_goes_14 : decode cX10_goes 14 = .ok (.aload_n 0, 1) := by decide +kernel
theorem dX10_goes_15 : decode cX10_goes 15 = .ok (.iconst 0, 1) := by decide +kernel
theorem dX10_goes_16 : decode cX10_goes 16 = .ok (.putfield 149, 3) := by decide +kernel
theorem dX10_goes_19 : decode cX10_goes 19 = .ok (.iconst 0, 1) := by decide +kernel
theorem dX10_goes_20 : decode cX10_goes 20 = .ok (.istore_n 1, 1) := by decide +kernel
theorem dX10_goes_21 : decode cX10_goes 21 = .ok (.aload_n 0, 1) := by decide +kernel
theorem dX10_goes_22 : decode cX10_goes 22 = .ok (.getfield 9, 3) := by decide +kernel
theorem dX10_goes_25 : decode cX10_goes 25 = .ok (.iconst 5, 1) := by decide +kernel
theorem dX10_goes_26 : decode cX10_goes 26 = .ok (.iaload, 1) := by decide +kernel
theorem dX10_goes_27 : decode cX10_goes 27 = .ok (.istore_n 2, 1) := by decide +kernel
theorem dX10_goes_28 : decode cX10_goes 28 = .ok (.aload_n 0, 1) := by decide +kernel
theorem dX10_goes_29 : decode cX10_goes 29 = .ok (.getfield 9, 3) := by decide +kernel
theorem dX10_goes_32 : decode cX10_goes 32 = .ok (.iconst 4, 1) := by decide +kernel
theorem dX10_goes_33 : decode cX10_goes 33 = .ok (.iaload, 1) := by decide +kernel
theorem dX10_goes_34 : decode cX10_goes 34 = .ok (.iconst 1, 1) := by decide +kernel
theorem dX10_goes_35 : decode cX10_goes 35 = .ok (.if_icmp .ne 138, 3) := by decide +kernel
theorem dX10_goes_38 : decode cX10_goes 38 = .ok (.iload_n 2, 1) := by decide +kernel
theorem dX10_goes_39 : decode cX10_goes 39 = .ok (.aload_n 0, 1) := by decide +kernel
theorem dX10_goes_40 : decode cX10_goes 40 = .ok (.getfield 9, 3) := by decide +kernel
theorem dX10_goes_43 : decode cX10_goes 43 = .ok (.iconst 0, 1) := by decide +kernel
theorem dX10_goes_44 : decode cX10_goes 44 = .ok (.iaload, 1) := by decide +kernel
theorem dX10_goes_45 : decode cX10_goes 45 = .ok (.if_icmp .ge 128, 3) := by decide +kernel
theorem dX10_goes_48 : decode cX10_goes 48 = .ok (.aload_n 0, 1) := by decide +kernel
theorem dX10_goes_49 : decode cX10_goes 49 = .ok (.getfield 143, 3) := by decide +kernel
theorem dX10_goes_52 : decode cX10_goes 52 = .ok (.aload_n 0, 1) := by decide +kernel
theorem dX10_goes_53 : decode cX10_goes 53 = .ok (.getfield 9, 3) := by decide +kernel
theorem dX10_goes_56 : decode cX10_goes 56 = .ok (.bipush 6, 2) := by decide +kernel
theorem dX10_goes_58 : decode cX10_goes 58 = .ok (.iaload, 1) := by decide +kernel
theorem dX10_goes_59 : decode cX10_goes 59 = .ok (.if_icmp .ge 114, 3) := by decide +kernel
theorem dX10_goes_62 : decode cX10_goes 62 = .ok (.iconst 2, 1) := by decide +kernel
theorem dX10_goes_63 : decode cX10_goes 63 = .ok (.aload_n 0, 1) := by decide +kernel
theorem dX10_goes_64 : decode cX10_goes 64 = .ok (.getfield 21, 3) := by decide +kernel
theorem dX10_goes_67 : decode cX10_goes 67 = .ok (.iload_n 2, 1) := by decide +kernel
theorem dX10_goes_68 : decode cX10_goes 68 = .ok (.iaload, 1) := by decide +kernel
theorem dX10_goes_69 : decode cX10_goes 69 = .ok (.imul, 1) := by decide +kernel
theorem dX10_goes_70 : decode cX10_goes 70 = .ok (.aload_n 0, 1) := by decide +kernel
theorem dX10_goes_71 : decode cX10_goes 71 = .ok (.getfield 9, 3) := by decide +kernel
theorem dX10_goes_74 : decode cX10_goes 74 = .ok (.bipush 40, 2) := by decide +kernel
theorem dX10_goes_76 : decode cX10_goes 76 = .ok (.aload_n 0, 1) := by decide +kernel
theorem dX10_goes_77 : decode cX10_goes 77 = .ok (.getfield 143, 3) := by decide +kernel
theorem dX10_goes_80 : decode cX10_goes 80 = .ok (.iadd, 1) := by decide +kernel
theorem dX10_goes_81 : decode cX10_goes 81 = .ok (.iaload, 1) := by decide +kernel
theorem dX10_goes_82 : decode cX10_goes 82 = .ok (.if_icmp .ge 7, 3) := by decide +kernel
theorem dX10_goes_85 : decode cX10_goes 85 = .ok (.iconst 1, 1) := by decide +kernel
theorem dX10_goes_86 : decode cX10_goes 86 = .ok (.goto 4, 3) := by decide +kernel
theorem dX10_goes_89 : decode cX10_goes 89 = .ok (.iconst 0, 1) := by decide +kernel
theorem dX10_goes_90 : decode cX10_goes 90 = .ok (.istore_n 3, 1) := by decide +kernel
theorem dX10_goes_91 : decode cX10_goes 91 = .ok (.iload_n 3, 1) := by decide +kernel
theorem dX10_goes_92 : decode cX10_goes 92 = .ok (.ifCond .eq 9, 3) := by decide +kernel
theorem dX10_goes_95 : decode cX10_goes 95 = .ok (.iload_n 1, 1) := by decide +kernel
theorem dX10_goes_96 : decode cX10_goes 96 = .ok (.iconst 1, 1) := by decide +kernel
theorem dX10_goes_97 : decode cX10_goes 97 = .ok (.iadd, 1) := by decide +kernel
theorem dX10_goes_98 : decode cX10_goes 98 = .ok (.goto 4, 3) := by decide +kernel
theorem dX10_goes_101 : decode cX10_goes 101 = .ok (.iconst 0, 1) := by decide +kernel
theorem dX10_goes_102 : decode cX10_goes 102 = .ok (.istore_n 1, 1) := by decide +kernel
theorem dX10_goes_103 : decode cX10_goes 103 = .ok (.aload_n 0, 1) := by decide +kernel
theorem dX10_goes_104 : decode cX10_goes 104 = .ok (.dup, 1) := by decide +kernel
theorem dX10_goes_105 : decode cX10_goes 105 = .ok (.getfield 146, 3) := by decide +kernel
theorem dX10_goes_108 : decode cX10_goes 108 = .ok (.iload_n 3, 1) := by decide +kernel
theorem dX10_goes_109 : decode cX10_goes 109 = .ok (.ifCond .eq 7, 3) := by decide +kernel
theorem dX10_goes_112 : decode cX10_goes 112 = .ok (.iconst 1, 1) := by decide +kernel
theorem dX10_goes_113 : decode cX10_goes 113 = .ok (.goto 4, 3) := by decide +kernel
theorem dX10_goes_116 : decode cX10_goes 116 = .ok (.iconst 0, 1) := by decide +kernel
theorem dX10_goes_117 : decode cX10_goes 117 = .ok (.iadd, 1) := by decide +kernel
theorem dX10_goes_118 : decode cX10_goes 118 = .ok (.putfield 146, 3) := by decide +kernel
theorem dX10_goes_121 : decode cX10_goes 121 = .ok (.aload_n 0, 1) := by decide +kernel
theorem dX10_goes_122 : decode cX10_goes 122 = .ok (.dup, 1) := by decide +kernel
theorem dX10_goes_123 : decode cX10_goes 123 = .ok (.getfield 149, 3) := by decide +kernel
theorem dX10_goes_126 : decode cX10_goes 126 = .ok (.iload_n 1, 1) := by decide +kernel
theorem dX10_goes_127 : decode cX10_goes 127 = .ok (.iconst 3, 1) := by decide +kernel
theorem dX10_goes_128 : decode cX10_goes 128 = .ok (.if_icmp .ne 7, 3) := by decide +kernel
theorem dX10_goes_131 : decode cX10_goes 131 = .ok (.iconst 1, 1) := by decide +kernel
theorem dX10_goes_132 : decode cX10_goes 132 = .ok (.goto 4, 3) := by decide +kernel
theorem dX10_goes_135 : decode cX10_goes 135 = .ok (.iconst 0, 1) := by decide +kernel
theorem dX10_goes_136 : decode cX10_goes 136 = .ok (.iadd, 1) := by decide +kernel
theorem dX10_goes_137 : decode cX10_goes 137 = .ok (.putfield 149, 3) := by decide +kernel
theorem dX10_goes_140 : decode cX10_goes 140 = .ok (.aload_n 0, 1) := by decide +kernel
theorem dX10_goes_141 : decode cX10_goes 141 = .ok (.dup, 1) := by decide +kernel
theorem dX10_goes_142 : decode cX10_goes 142 = .ok (.getfield 143, 3) := by decide +kernel
theorem dX10_goes_145 : decode cX10_goes 145 = .ok (.iload_n 3, 1) := by decide +kernel
theorem dX10_goes_146 : decode cX10_goes 146 = .ok (.ifCond .eq 8, 3) := by decide +kernel
theorem dX10_goes_149 : decode cX10_goes 149 = .ok (.iload_n 1, 1) := by decide +kernel
theorem dX10_goes_150 : decode cX10_goes 150 = .ok (.iconst 3, 1) := by decide +kernel
theorem dX10_goes_151 : decode cX10_goes 151 = .ok (.if_icmp .ne 7, 3) := by decide +kernel
theorem dX10_goes_154 : decode cX10_goes 154 = .ok (.iconst 1, 1) := by decide +kernel
theorem dX10_goes_155 : decode cX10_goes 155 = .ok (.goto 4, 3) := by decide +kernel
theorem dX10_goes_158 : decode cX10_goes 158 = .ok (.iconst 0, 1) := by decide +kernel
theorem dX10_goes_159 : decode cX10_goes 159 = .ok (.iadd, 1) := by decide +kernel
theorem dX10_goes_160 : decode cX10_goes 160 = .ok (.putfield 143, 3) := by decide +kernel
theorem dX10_goes_163 : decode cX10_goes 163 = .ok (.iload_n 1, 1) := by decide +kernel
theorem dX10_goes_164 : decode cX10_goes 164 = .ok (.iconst 3, 1) := by decide +kernel
theorem dX10_goes_165 : decode cX10_goes 165 = .ok (.irem, 1) := by decide +kernel
theorem dX10_goes_166 : decode cX10_goes 166 = .ok (.istore_n 1, 1) := by decide +kernel
theorem dX10_goes_167 : decode cX10_goes 167 = .ok (.iinc 2 1, 3) := by decide +kernel
theorem dX10_goes_170 : decode cX10_goes 170 = .ok (.goto (-142), 3) := by decide +kernel
theorem dX10_goes_173 : decode cX10_goes 173 = .ok (.aload_n 0, 1) := by decide +kernel
theorem dX10_goes_174 : decode cX10_goes 174 = .ok (.getfield 9, 3) := by decide +kernel
theorem dX10_goes_177 : decode cX10_goes 177 = .ok (.iconst 4, 1) := by decide +kernel
theorem dX10_goes_178 : decode cX10_goes 178 = .ok (.iaload, 1) := by decide +kernel
theorem dX10_goes_179 : decode cX10_goes 179 = .ok (.iconst 1, 1) := by decide +kernel
theorem dX10_goes_180 : decode cX10_goes 180 = .ok (.if_icmp .ne 21, 3) := by decide +kernel
theorem dX10_goes_183 : decode cX10_goes 183 = .ok (.aload_n 0, 1) := by decide +kernel
theorem dX10_goes_184 : decode cX10_goes 184 = .ok (.getfield 143, 3) := by decide +kernel
theorem dX10_goes_187 : decode cX10_goes 187 = .ok (.aload_n 0, 1) := by decide +kernel
theorem dX10_goes_188 : decode cX10_goes 188 = .ok (.getfield 9, 3) := by decide +kernel
theorem dX10_goes_191 : decode cX10_goes 191 = .ok (.bipush 6, 2) := by decide +kernel
theorem dX10_goes_193 : decode cX10_goes 193 = .ok (.iaload, 1) := by decide +kernel
theorem dX10_goes_194 : decode cX10_goes 194 = .ok (.if_icmp .ge 7, 3) := by decide +kernel
theorem dX10_goes_197 : decode cX10_goes 197 = .ok (.iconst 1, 1) := by decide +kernel
theorem dX10_goes_198 : decode cX10_goes 198 = .ok (.goto 4, 3) := by decide +kernel
theorem dX10_goes_201 : decode cX10_goes 201 = .ok (.iconst 0, 1) := by decide +kernel
theorem dX10_goes_202 : decode cX10_goes 202 = .ok (.ireturn, 1) := by decide +kernel
theorem dX10_dueEntry_0 : decode cX10_dueEntry 0 = .ok (.aload_n 0, 1) := by decide +kernel
theorem dX10_dueEntry_1 : decode cX10_dueEntry 1 = .ok (.aload_n 0, 1) := by decide +kernel
theorem dX10_dueEntry_2 : decode cX10_dueEntry 2 = .ok (.invokevirtual 152, 3) := by decide +kernel
theorem dX10_dueEntry_5 : decode cX10_dueEntry 5 = .ok (.ifCond .ne 7, 3) := by decide +kernel
theorem dX10_dueEntry_8 : decode cX10_dueEntry 8 = .ok (.iconst 1, 1) := by decide +kernel
theorem dX10_dueEntry_9 : decode cX10_dueEntry 9 = .ok (.goto 4, 3) := by decide +kernel
theorem dX10_dueEntry_12 : decode cX10_dueEntry 12 = .ok (.iconst 0, 1) := by decide +kernel
theorem dX10_dueEntry_13 : decode cX10_dueEntry 13 = .ok (.iconst 1, 1) := by decide +kernel
theorem dX10_dueEntry_14 : decode cX10_dueEntry 14 = .ok (.invokevirtual 51, 3) := by decide +kernel
theorem dX10_dueEntry_17 : decode cX10_dueEntry 17 = .ok (.ifCond .eq 7, 3) := by decide +kernel
theorem dX10_dueEntry_20 : decode cX10_dueEntry 20 = .ok (.iconst 0, 1) := by decide +kernel
theorem dX10_dueEntry_21 : decode cX10_dueEntry 21 = .ok (.goto 7, 3) := by decide +kernel
theorem dX10_dueEntry_24 : decode cX10_dueEntry 24 = .ok (.aload_n 0, 1) := by decide +kernel
theorem dX10_dueEntry_25 : decode cX10_dueEntry 25 = .ok (.getfield 143, 3) := by decide +kernel
theorem dX10_dueEntry_28 : decode cX10_dueEntry 28 = .ok (.ireturn, 1) := by decide +kernel
theorem dX10_missedDays_0 : decode cX10_missedDays 0 = .ok (.aload_n 0, 1) := by decide +kernel
theorem dX10_missedDays_1 : decode cX10_missedDays 1 = .ok (.iconst 0, 1) := by decide +kernel
theorem dX10_missedDays_2 : decode cX10_missedDays 2 = .ok (.putfield 31, 3) := by decide +kernel
theorem dX10_missedDays_5 : decode cX10_missedDays 5 = .ok (.aload_n 0, 1) := by decide +kernel
theorem dX10_missedDays_6 : decode cX10_missedDays 6 = .ok (.invokevirtual 152, 3) := by decide +kernel
theorem dX10_missedDays_9 : decode cX10_missedDays 9 = .ok (.istore_n 1, 1) := by decide +kernel
theorem dX10_missedDays_10 : decode cX10_missedDays 10 = .ok (.aload_n 0, 1) := by decide +kernel
theorem dX10_missedDays_11 : decode cX10_missedDays 11 = .ok (.getfield 146, 3) := by decide +kernel
theorem dX10_missedDays_14 : decode cX10_missedDays 14 = .ok (.ireturn, 1) := by decide +kernel
theorem dX10_droppedEntries_0 : decode cX10_droppedEntries 0 = .ok (.aload_n 0, 1) := by decide +kernel
theorem dX10_droppedEntries_1 : decode cX10_droppedEntries 1 = .ok (.iconst 0, 1) := by decide +kernel
theorem dX10_droppedEntries_2 : decode cX10_droppedEntries 2 = .ok (.putfield 31, 3) := by decide +kernel
theorem dX10_droppedEntries_5 : decode cX10_droppedEntries 5 = .ok (.aload_n 0, 1) := by decide +kernel
theorem dX10_droppedEntries_6 : decode cX10_droppedEntries 6 = .ok (.invokevirtual 152, 3) := by decide +kernel
theorem dX10_droppedEntries_9 : decode cX10_droppedEntries 9 = .ok (.istore_n 1, 1) := by decide +kernel
theorem dX10_droppedEntries_10 : decode cX10_droppedEntries 10 = .ok (.aload_n 0, 1) := by decide +kernel
theorem dX10_droppedEntries_11 : decode cX10_droppedEntries 11 = .ok (.getfield 149, 3) := by decide +kernel
theorem dX10_droppedEntries_14 : decode cX10_droppedEntries 14 = .ok (.ireturn, 1) := by decide +kernel
theorem dX10_planEnd_0 : decode cX10_planEnd 0 = .ok (.aload_n 0, 1) := by decide +kernel
theorem dX10_planEnd_1 : decode cX10_planEnd 1 = .ok (.aload_n 0, 1) := by decide +kernel
theorem dX10_planEnd_2 : decode cX10_planEnd 2 = .ok (.invokevirtual 152, 3) := by decide +kernel
theorem dX10_planEnd_5 : decode cX10_planEnd 5 = .ok (.ifCond .ne 7, 3) := by decide +kernel
theorem dX10_planEnd_8 : decode cX10_planEnd 8 = .ok (.iconst 1, 1) := by decide +kernel
theorem dX10_planEnd_9 : decode cX10_planEnd 9 = .ok (.goto 4, 3) := by decide +kernel
theorem dX10_planEnd_12 : decode cX10_planEnd 12 = .ok (.iconst 0, 1) := by decide +kernel
theorem dX10_planEnd_13 : decode cX10_planEnd 13 = .ok (.iconst 1, 1) := by decide +kernel
theorem dX10_planEnd_14 : decode cX10_planEnd 14 = .ok (.invokevirtual 51, 3) := by decide +kernel
theorem dX10_planEnd_17 : decode cX10_planEnd 17 = .ok (.ifCond .eq 7, 3) := by decide +kernel
theorem dX10_planEnd_20 : decode cX10_planEnd 20 = .ok (.iconst 0, 1) := by decide +kernel
theorem dX10_planEnd_21 : decode cX10_planEnd 21 = .ok (.goto 24, 3) := by decide +kernel
theorem dX10_planEnd_24 : decode cX10_planEnd 24 = .ok (.aload_n 0, 1) := by decide +kernel
theorem dX10_planEnd_25 : decode cX10_planEnd 25 = .ok (.getfield 9, 3) := by decide +kernel
theorem dX10_planEnd_28 : decode cX10_planEnd 28 = .ok (.iconst 0, 1) := by decide +kernel
theorem dX10_planEnd_29 : decode cX10_planEnd 29 = .ok (.iaload, 1) := by decide +kernel
theorem dX10_planEnd_30 : decode cX10_planEnd 30 = .ok (.aload_n 0, 1) := by decide +kernel
theorem dX10_planEnd_31 : decode cX10_planEnd 31 = .ok (.getfield 9, 3) := by decide +kernel
theorem dX10_planEnd_34 : decode cX10_planEnd 34 = .ok (.bipush 6, 2) := by decide +kernel
theorem dX10_planEnd_36 : decode cX10_planEnd 36 = .ok (.iaload, 1) := by decide +kernel
theorem dX10_planEnd_37 : decode cX10_planEnd 37 = .ok (.iadd, 1) := by decide +kernel
theorem dX10_planEnd_38 : decode cX10_planEnd 38 = .ok (.iconst 1, 1) := by decide +kernel
theorem dX10_planEnd_39 : decode cX10_planEnd 39 = .ok (.isub, 1) := by decide +kernel
theorem dX10_planEnd_40 : decode cX10_planEnd 40 = .ok (.aload_n 0, 1) := by decide +kernel
theorem dX10_planEnd_41 : decode cX10_planEnd 41 = .ok (.getfield 143, 3) := by decide +kernel
theorem dX10_planEnd_44 : decode cX10_planEnd 44 = .ok (.isub, 1) := by decide +kernel
theorem dX10_planEnd_45 : decode cX10_planEnd 45 = .ok (.ireturn, 1) := by decide +kernel
theorem dX10_isPlanOver_0 : decode cX10_isPlanOver 0 = .ok (.aload_n 0, 1) := by decide +kernel
theorem dX10_isPlanOver_1 : decode cX10_isPlanOver 1 = .ok (.iconst 0, 1) := by decide +kernel
theorem dX10_isPlanOver_2 : decode cX10_isPlanOver 2 = .ok (.putfield 31, 3) := by decide +kernel
theorem dX10_isPlanOver_5 : decode cX10_isPlanOver 5 = .ok (.aload_n 0, 1) := by decide +kernel
theorem dX10_isPlanOver_6 : decode cX10_isPlanOver 6 = .ok (.invokevirtual 152, 3) := by decide +kernel
theorem dX10_isPlanOver_9 : decode cX10_isPlanOver 9 = .ok (.ifCond .ne 17, 3) := by decide +kernel
theorem dX10_isPlanOver_12 : decode cX10_isPlanOver 12 = .ok (.aload_n 0, 1) := by decide +kernel
theorem dX10_isPlanOver_13 : decode cX10_isPlanOver 13 = .ok (.getfield 9, 3) := by decide +kernel
theorem dX10_isPlanOver_16 : decode cX10_isPlanOver 16 = .ok (.iconst 4, 1) := by decide +kernel
theorem dX10_isPlanOver_17 : decode cX10_isPlanOver 17 = .ok (.iaload, 1) := by decide +kernel
theorem dX10_isPlanOver_18 : decode cX10_isPlanOver 18 = .ok (.iconst 1, 1) := by decide +kernel
theorem dX10_isPlanOver_19 : decode cX10_isPlanOver 19 = .ok (.if_icmp .ne 7, 3) := by decide +kernel
theorem dX10_isPlanOver_22 : decode cX10_isPlanOver 22 = .ok (.iconst 1, 1) := by decide +kernel
theorem dX10_isPlanOver_23 : decode cX10_isPlanOver 23 = .ok (.goto 4, 3) := by decide +kernel
theorem dX10_isPlanOver_26 : decode cX10_isPlanOver 26 = .ok (.iconst 0, 1) := by decide +kernel
theorem dX10_isPlanOver_27 : decode cX10_isPlanOver 27 = .ok (.ireturn, 1) := by decide +kernel
theorem dX10_told_0 : decode cX10_told 0 = .ok (.aload_n 0, 1) := by decide +kernel
theorem dX10_told_1 : decode cX10_told 1 = .ok (.invokevirtual 78, 3) := by decide +kernel
theorem dX10_told_4 : decode cX10_told 4 = .ok (.iconst 0, 1) := by decide +kernel
theorem dX10_told_5 : decode cX10_told 5 = .ok (.istore_n 2, 1) := by decide +kernel
theorem dX10_told_6 : decode cX10_told 6 = .ok (.iconst 0, 1) := by decide +kernel
theorem dX10_told_7 : decode cX10_told 7 = .ok (.istore_n 3, 1) := by decide +kernel
theorem dX10_told_8 : decode cX10_told 8 = .ok (.iconst 0, 1) := by decide +kernel
theorem dX10_told_9 : decode cX10_told 9 = .ok (.istore 4, 2) := by decide +kernel
theorem dX10_told_11 : decode cX10_told 11 = .ok (.iload 4, 2) := by decide +kernel
theorem dX10_told_13 : decode cX10_told 13 = .ok (.aload_n 0, 1) := by decide +kernel
theorem dX10_told_14 : decode cX10_told 14 = .ok (.getfield 9, 3) := by decide +kernel
theorem dX10_told_17 : decode cX10_told 17 = .ok (.iconst 2, 1) := by decide +kernel
theorem dX10_told_18 : decode cX10_told 18 = .ok (.iaload, 1) := by decide +kernel
theorem dX10_told_19 : decode cX10_told 19 = .ok (.if_icmp .ge 51, 3) := by decide +kernel
theorem dX10_told_22 : decode cX10_told 22 = .ok (.aload_n 0, 1) := by decide +kernel
theorem dX10_told_23 : decode cX10_told 23 = .ok (.getfield 9, 3) := by decide +kernel
theorem dX10_told_26 : decode cX10_told 26 = .ok (.aload_n 0, 1) := by decide +kernel
theorem dX10_told_27 : decode cX10_told 27 = .ok (.iload 4, 2) := by decide +kernel
theorem dX10_told_29 : decode cX10_told 29 = .ok (.invokevirtual 75, 3) := by decide +kernel
theorem dX10_told_32 : decode cX10_told 32 = .ok (.iconst 1, 1) := by decide +kernel
theorem dX10_told_33 : decode cX10_told 33 = .ok (.iadd, 1) := by decide +kernel
theorem dX10_told_34 : decode cX10_told 34 = .ok (.iaload, 1) := by decide +kernel
theorem dX10_told_35 : decode cX10_told 35 = .ok (.iload_n 1, 1) := by decide +kernel
theorem dX10_told_36 : decode cX10_told 36 = .ok (.if_icmp .ne 28, 3) := by decide +kernel
theorem dX10_told_39 : decode cX10_told 39 = .ok (.iinc 2 1, 3) := by decide +kernel
theorem dX10_told_42 : decode cX10_told 42 = .ok (.aload_n 0, 1) := by decide +kernel
theorem dX10_told_43 : decode cX10_told 43 = .ok (.iload 4, 2) := by decide +kernel
theorem dX10_told_45 : decode cX10_told 45 = .ok (.invokevirtual 81, 3) := by decide +kernel
theorem dX10_told_48 : decode cX10_told 48 = .ok (.iload_n 3, 1) := by decide +kernel
theorem dX10_told_49 : decode cX10_told 49 = .ok (.aload_n 0, 1) := by decide +kernel
theorem dX10_told_50 : decode cX10_told 50 = .ok (.getfield 9, 3) := by decide +kernel
theorem dX10_told_53 : decode cX10_told 53 = .ok (.aload_n 0, 1) := by decide +kernel
theorem dX10_told_54 : decode cX10_told 54 = .ok (.iload 4, 2) := by decide +kernel
theorem dX10_told_56 : decode cX10_told 56 = .ok (.invokevirtual 75, 3) := by decide +kernel
theorem dX10_told_59 : decode cX10_told 59 = .ok (.iconst 2, 1) := by decide +kernel
theorem dX10_told_60 : decode cX10_told 60 = .ok (.iadd, 1) := by decide +kernel
theorem dX10_told_61 : decode cX10_told 61 = .ok (.iaload, 1) := by decide +kernel
theorem dX10_told_62 : decode cX10_told 62 = .ok (.iadd, 1) := by decide +kernel
theorem dX10_told_63 : decode cX10_told 63 = .ok (.istore_n 3, 1) := by decide +kernel
theorem dX10_told_64 : decode cX10_told 64 = .ok (.iinc 4 1, 3) := by decide +kernel
theorem dX10_told_67 : decode cX10_told 67 = .ok (.goto (-56), 3) := by decide +kernel
theorem dX10_told_70 : decode cX10_told 70 = .ok (.iconst 1, 1) := by decide +kernel
theorem dX10_told_71 : decode cX10_told 71 = .ok (.istore 4, 2) := by decide +kernel
theorem dX10_told_73 : decode cX10_told 73 = .ok (.iconst 2, 1) := by decide +kernel
theorem dX10_told_74 : decode cX10_told 74 = .ok (.istore 5, 2) := by decide +kernel
theorem dX10_told_76 : decode cX10_told 76 = .ok (.iload 5, 2) := by decide +kernel
theorem dX10_told_78 : decode cX10_told 78 = .ok (.iconst 5, 1) := by decide +kernel
theorem dX10_told_79 : decode cX10_told 79 = .ok (.if_icmp .gt 35, 3) := by decide +kernel
theorem dX10_told_82 : decode cX10_told 82 = .ok (.aload_n 0, 1) := by decide +kernel
theorem dX10_told_83 : decode cX10_told 83 = .ok (.getfield 24, 3) := by decide +kernel
theorem dX10_told_86 : decode cX10_told 86 = .ok (.iload 5, 2) := by decide +kernel
theorem dX10_told_88 : decode cX10_told 88 = .ok (.iaload, 1) := by decide +kernel
theorem dX10_told_89 : decode cX10_told 89 = .ok (.aload_n 0, 1) := by decide +kernel
theorem dX10_told_90 : decode cX10_told 90 = .ok (.getfield 24, 3) := by decide +kernel
theorem dX10_told_93 : decode cX10_told 93 = .ok (.iload 4, 2) := by decide +kernel
theorem dX10_told_95 : decode cX10_told 95 = .ok (.iaload, 1) := by decide +kernel
theorem dX10_told_96 : decode cX10_told 96 = .ok (.if_icmp .le 8, 3) := by decide +kernel
theorem dX10_told_99 : decode cX10_told 99 = .ok (.iload 5, 2) := by decide +kernel
theorem dX10_told_101 : decode cX10_told 101 = .ok (.goto 5, 3) := by decide +kernel
theorem dX10_told_104 : decode cX10_told 104 = .ok (.iload 4, 2) := by decide +kernel
theorem dX10_told_106 : decode cX10_told 106 = .ok (.istore 4, 2) := by decide +kernel
theorem dX10_told_108 : decode cX10_told 108 = .ok (.iinc 5 1, 3) := by decide +kernel
theorem dX10_told_111 : decode cX10_told 111 = .ok (.goto (-35), 3) := by decide +kernel
theorem dX10_told_114 : decode cX10_told 114 = .ok (.iload_n 1, 1) := by decide +kernel
theorem dX10_told_115 : decode cX10_told 115 = .ok (.aload_n 0, 1) := by decide +kernel
theorem dX10_told_116 : decode cX10_told 116 = .ok (.getfield 9, 3) := by decide +kernel
theorem dX10_told_119 : decode cX10_told 119 = .ok (.iconst 0, 1) := by decide +kernel
theorem dX10_told_120 : decode cX10_told 120 = .ok (.iaload, 1) := by decide +kernel
theorem dX10_told_121 : decode cX10_told 121 = .ok (.if_icmp .le 8, 3) := by decide +kernel
theorem dX10_told_124 : decode cX10_told 124 = .ok (.bipush 45, 2) := by decide +kernel
theorem dX10_told_126 : decode cX10_told 126 = .ok (.goto 27, 3) := by decide +kernel
theorem dX10_told_129 : decode cX10_told 129 = .ok (.iload_n 2, 1) := by decide +kernel
theorem dX10_told_130 : decode cX10_told 130 = .ok (.ifCond .ne 8, 3) := by decide +kernel
theorem dX10_told_133 : decode cX10_told 133 = .ok (.bipush 46, 2) := by decide +kernel
theorem dX10_told_135 : decode cX10_told 135 = .ok (.goto 18, 3) := by decide +kernel
theorem dX10_told_138 : decode cX10_told 138 = .ok (.iload_n 3, 1) := by decide +kernel
theorem dX10_told_139 : decode cX10_told 139 = .ok (.ifCond .ne 8, 3) := by decide +kernel
theorem dX10_told_142 : decode cX10_told 142 = .ok (.bipush 48, 2) := by decide +kernel
theorem dX10_told_144 : decode cX10_told 144 = .ok (.goto 9, 3) := by decide +kernel
theorem dX10_told_147 : decode cX10_told 147 = .ok (.bipush 48, 2) := by decide +kernel
theorem dX10_told_149 : decode cX10_told 149 = .ok (.iload 4, 2) := by decide +kernel
theorem dX10_told_151 : decode cX10_told 151 = .ok (.iadd, 1) := by decide +kernel
theorem dX10_told_152 : decode cX10_told 152 = .ok (.i2c, 1) := by decide +kernel
theorem dX10_told_153 : decode cX10_told 153 = .ok (.ireturn, 1) := by decide +kernel
theorem dX10_writeWeek_0 : decode cX10_writeWeek 0 = .ok (.aload_n 0, 1) := by decide +kernel
theorem dX10_writeWeek_1 : decode cX10_writeWeek 1 = .ok (.aload_n 0, 1) := by decide +kernel
theorem dX10_writeWeek_2 : decode cX10_writeWeek 2 = .ok (.iload_n 1, 1) := by decide +kernel
theorem dX10_writeWeek_3 : decode cX10_writeWeek 3 = .ok (.invokevirtual 58, 3) := by decide +kernel
theorem dX10_writeWeek_6 : decode cX10_writeWeek 6 = .ok (.iconst 1, 1) := by decide +kernel
theorem dX10_writeWeek_7 : decode cX10_writeWeek 7 = .ok (.invokevirtual 51, 3) := by decide +kernel
theorem dX10_writeWeek_10 : decode cX10_writeWeek 10 = .ok (.ifCond .eq 5, 3) := by decide +kernel
theorem dX10_writeWeek_13 : decode cX10_writeWeek 13 = .ok (.iconst 0, 1) := by decide +kernel
theorem dX10_writeWeek_14 : decode cX10_writeWeek 14 = .ok (.ireturn, 1) := by decide +kernel
theorem dX10_writeWeek_15 : decode cX10_writeWeek 15 = .ok (.iconst 0, 1) := by decide +kernel
theorem dX10_writeWeek_16 : decode cX10_writeWeek 16 = .ok (.istore_n 2, 1) := by decide +kernel
theorem dX10_writeWeek_17 : decode cX10_writeWeek 17 = .ok (.iload_n 2, 1) := by decide +kernel
theorem dX10_writeWeek_18 : decode cX10_writeWeek 18 = .ok (.bipush 13, 2) := by decide +kernel
theorem dX10_writeWeek_20 : decode cX10_writeWeek 20 = .ok (.if_icmp .ge 36, 3) := by decide +kernel
theorem dX10_writeWeek_23 : decode cX10_writeWeek 23 = .ok (.aload_n 0, 1) := by decide +kernel
theorem dX10_writeWeek_24 : decode cX10_writeWeek 24 = .ok (.getfield 27, 3) := by decide +kernel
theorem dX10_writeWeek_27 : decode cX10_writeWeek 27 = .ok (.iload_n 2, 1) := by decide +kernel
theorem dX10_writeWeek_28 : decode cX10_writeWeek 28 = .ok (.iload_n 2, 1) := by decide +kernel
theorem dX10_writeWeek_29 : decode cX10_writeWeek 29 = .ok (.iconst 2, 1) := by decide +kernel
theorem dX10_writeWeek_30 : decode cX10_writeWeek 30 = .ok (.irem, 1) := by decide +kernel
theorem dX10_writeWeek_31 : decode cX10_writeWeek 31 = .ok (.iconst 1, 1) := by decide +kernel
theorem dX10_writeWeek_32 : decode cX10_writeWeek 32 = .ok (.if_icmp .ne 8, 3) := by decide +kernel
theorem dX10_writeWeek_35 : decode cX10_writeWeek 35 = .ok (.bipush 32, 2) := by decide +kernel
theorem dX10_writeWeek_37 : decode cX10_writeWeek 37 = .ok (.goto 12, 3) := by decide +kernel
theorem dX10_writeWeek_40 : decode cX10_writeWeek 40 = .ok (.aload_n 0, 1) := by decide +kernel
theorem dX10_writeWeek_41 : decode cX10_writeWeek 41 = .ok (.iload_n 1, 1) := by decide +kernel
theorem dX10_writeWeek_42 : decode cX10_writeWeek 42 = .ok (.iload_n 2, 1) := by decide +kernel
theorem dX10_writeWeek_43 : decode cX10_writeWeek 43 = .ok (.iconst 2, 1) := by decide +kernel
theorem dX10_writeWeek_44 : decode cX10_writeWeek 44 = .ok (.idiv, 1) := by decide +kernel
theorem dX10_writeWeek_45 : decode cX10_writeWeek 45 = .ok (.iadd, 1) := by decide +kernel
theorem dX10_writeWeek_46 : decode cX10_writeWeek 46 = .ok (.invokevirtual 156, 3) := by decide +kernel
theorem dX10_writeWeek_49 : decode cX10_writeWeek 49 = .ok (.castore, 1) := by decide +kernel
theorem dX10_writeWeek_50 : decode cX10_writeWeek 50 = .ok (.iinc 2 1, 3) := by decide +kernel
theorem dX10_writeWeek_53 : decode cX10_writeWeek 53 = .ok (.goto (-36), 3) := by decide +kernel
theorem dX10_writeWeek_56 : decode cX10_writeWeek 56 = .ok (.aload_n 0, 1) := by decide +kernel
theorem dX10_writeWeek_57 : decode cX10_writeWeek 57 = .ok (.bipush 13, 2) := by decide +kernel
theorem dX10_writeWeek_59 : decode cX10_writeWeek 59 = .ok (.putfield 160, 3) := by decide +kernel
theorem dX10_writeWeek_62 : decode cX10_writeWeek 62 = .ok (.bipush 13, 2) := by decide +kernel
theorem dX10_writeWeek_64 : decode cX10_writeWeek 64 = .ok (.ireturn, 1) := by decide +kernel
theorem dX10_lineAt_0 : decode cX10_lineAt 0 = .ok (.aload_n 0, 1) := by decide +kernel
theorem dX10_lineAt_1 : decode cX10_lineAt 1 = .ok (.iload_n 1, 1) := by decide +kernel
theorem dX10_lineAt_2 : decode cX10_lineAt 2 = .ok (.iconst 0, 1) := by decide +kernel
theorem dX10_lineAt_3 : decode cX10_lineAt 3 = .ok (.aload_n 0, 1) := by decide +kernel
theorem dX10_lineAt_4 : decode cX10_lineAt 4 = .ok (.getfield 160, 3) := by decide +kernel
theorem dX10_lineAt_7 : decode cX10_lineAt 7 = .ok (.iconst 1, 1) := by decide +kernel
theorem dX10_lineAt_8 : decode cX10_lineAt 8 = .ok (.isub, 1) := by decide +kernel
theorem dX10_lineAt_9 : decode cX10_lineAt 9 = .ok (.invokestatic 47, 3) := by decide +kernel
theorem dX10_lineAt_12 : decode cX10_lineAt 12 = .ok (.ifCond .ne 7, 3) := by decide +kernel
theorem dX10_lineAt_15 : decode cX10_lineAt 15 = .ok (.iconst 1, 1) := by decide +kernel
theorem dX10_lineAt_16 : decode cX10_lineAt 16 = .ok (.goto 4, 3) := by decide +kernel
theorem dX10_lineAt_19 : decode cX10_lineAt 19 = .ok (.iconst 0, 1) := by decide +kernel
theorem dX10_lineAt_20 : decode cX10_lineAt 20 = .ok (.iconst 1, 1) := by decide +kernel
theorem dX10_lineAt_21 : decode cX10_lineAt 21 = .ok (.invokevirtual 51, 3) := by decide +kernel
theorem dX10_lineAt_24 : decode cX10_lineAt 24 = .ok (.ifCond .eq 8, 3) := by decide +kernel
theorem dX10_lineAt_27 : decode cX10_lineAt 27 = .ok (.bipush 45, 2) := by decide +kernel
theorem dX10_lineAt_29 : decode cX10_lineAt 29 = .ok (.goto 9, 3) := by decide +kernel
theorem dX10_lineAt_32 : decode cX10_lineAt 32 = .ok (.aload_n 0, 1) := by decide +kernel
theorem dX10_lineAt_33 : decode cX10_lineAt 33 = .ok (.getfield 27, 3) := by decide +kernel
theorem dX10_lineAt_36 : decode cX10_lineAt 36 = .ok (.iload_n 1, 1) := by decide +kernel
theorem dX10_lineAt_37 : decode cX10_lineAt 37 = .ok (.caload, 1) := by decide +kernel
theorem dX10_lineAt_38 : decode cX10_lineAt 38 = .ok (.ireturn, 1) := by decide +kernel
theorem dX10_undo_0 : decode cX10_undo 0 = .ok (.aload_n 0, 1) := by decide +kernel
theorem dX10_undo_1 : decode cX10_undo 1 = .ok (.aload_n 0, 1) := by decide +kernel
theorem dX10_undo_2 : decode cX10_undo 2 = .ok (.getfield 38, 3) := by decide +kernel
theorem dX10_undo_5 : decode cX10_undo 5 = .ok (.ifCond .ne 7, 3) := by decide +kernel
theorem dX10_undo_8 : decode cX10_undo 8 = .ok (.iconst 1, 1) := by decide +kernel
theorem dX10_undo_9 : decode cX10_undo 9 = .ok (.goto 4, 3) := by decide +kernel
theorem dX10_undo_12 : decode cX10_undo 12 = .ok (.iconst 0, 1) := by decide +kernel
theorem dX10_undo_13 : decode cX10_undo 13 = .ok (.iconst 1, 1) := by decide +kernel
theorem dX10_undo_14 : decode cX10_undo 14 = .ok (.invokevirtual 51, 3) := by decide +kernel
theorem dX10_undo_17 : decode cX10_undo 17 = .ok (.ifCond .eq 5, 3) := by decide +kernel
theorem dX10_undo_20 : decode cX10_undo 20 = .ok (.iconst 0, 1) := by decide +kernel
theorem dX10_undo_21 : decode cX10_undo 21 = .ok (.ireturn, 1) := by decide +kernel
theorem dX10_undo_22 : decode cX10_undo 22 = .ok (.iconst 0, 1) := by decide +kernel
theorem dX10_undo_23 : decode cX10_undo 23 = .ok (.istore_n 1, 1) := by decide +kernel
theorem dX10_undo_24 : decode cX10_undo 24 = .ok (.iload_n 1, 1) := by decide +kernel
theorem dX10_undo_25 : decode cX10_undo 25 = .ok (.sipush 830, 3) := by decide +kernel
theorem dX10_undo_28 : decode cX10_undo 28 = .ok (.if_icmp .ge 26, 3) := by decide +kernel
theorem dX10_undo_31 : decode cX10_undo 31 = .ok (.aload_n 0, 1) := by decide +kernel
theorem dX10_undo_32 : decode cX10_undo 32 = .ok (.getfield 9, 3) := by decide +kernel
theorem dX10_undo_35 : decode cX10_undo 35 = .ok (.iload_n 1, 1) := by decide +kernel
theorem dX10_undo_36 : decode cX10_undo 36 = .ok (.aload_n 0, 1) := by decide +kernel
theorem dX10_undo_37 : decode cX10_undo 37 = .ok (.getfield 15, 3) := by decide +kernel
theorem dX10_undo_40 : decode cX10_undo 40 = .ok (.aload_n 0, 1) := by decide +kernel
theorem dX10_undo_41 : decode cX10_undo 41 = .ok (.getfield 35, 3) := by decide +kernel
theorem dX10_undo_44 : decode cX10_undo 44 = .ok (.aaload, 1) := by decide +kernel
theorem dX10_undo_45 : decode cX10_undo 45 = .ok (.iload_n 1, 1) := by decide +kernel
theorem dX10_undo_46 : decode cX10_undo 46 = .ok (.iaload, 1) := by decide +kernel
theorem dX10_undo_47 : decode cX10_undo 47 = .ok (.iastore, 1) := by decide +kernel
theorem dX10_undo_48 : decode cX10_undo 48 = .ok (.iinc 1 1, 3) := by decide +kernel
theorem dX10_undo_51 : decode cX10_undo 51 = .ok (.goto (-27), 3) := by decide +kernel
theorem dX10_undo_54 : decode cX10_undo 54 = .ok (.aload_n 0, 1) := by decide +kernel
theorem dX10_undo_55 : decode cX10_undo 55 = .ok (.aload_n 0, 1) := by decide +kernel
theorem dX10_undo_56 : decode cX10_undo 56 = .ok (.getfield 35, 3) := by decide +kernel
theorem dX10_undo_59 : decode cX10_undo 59 = .ok (.bipush 6, 2) := by decide +kernel
theorem dX10_undo_61 : decode cX10_undo 61 = .ok (.iadd, 1) := by decide +kernel
theorem dX10_undo_62 : decode cX10_undo 62 = .ok (.iconst 1, 1) := by decide +kernel
theorem dX10_undo_63 : decode cX10_undo 63 = .ok (.isub, 1) := by decide +kernel
theorem dX10_undo_64 : decode cX10_undo 64 = .ok (.bipush 6, 2) := by decide +kernel
theorem dX10_undo_66 : decode cX10_undo 66 = .ok (.irem, 1) := by decide +kernel
theorem dX10_undo_67 : decode cX10_undo 67 = .ok (.putfield 35, 3) := by decide +kernel
theorem dX10_undo_70 : decode cX10_undo 70 = .ok (.aload_n 0, 1) := by decide +kernel
theorem dX10_undo_71 : decode cX10_undo 71 = .ok (.dup, 1) := by decide +kernel
theorem dX10_undo_72 : decode cX10_undo 72 = .ok (.getfield 38, 3) := by decide +kernel
theorem dX10_undo_75 : decode cX10_undo 75 = .ok (.iconst 1, 1) := by decide +kernel
theorem dX10_undo_76 : decode cX10_undo 76 = .ok (.isub, 1) := by decide +kernel
theorem dX10_undo_77 : decode cX10_undo 77 = .ok (.putfield 38, 3) := by decide +kernel
theorem dX10_undo_80 : decode cX10_undo 80 = .ok (.aload_n 0, 1) := by decide +kernel
theorem dX10_undo_81 : decode cX10_undo 81 = .ok (.getfield 38, 3) := by decide +kernel
theorem dX10_undo_84 : decode cX10_undo 84 = .ok (.ireturn, 1) := by decide +kernel
theorem dX10_save_0 : decode cX10_save 0 = .ok (.aload_n 0, 1) := by decide +kernel
theorem dX10_save_1 : decode cX10_save 1 = .ok (.iconst 0, 1) := by decide +kernel
theorem dX10_save_2 : decode cX10_save 2 = .ok (.putfield 31, 3) := by decide +kernel
theorem dX10_save_5 : decode cX10_save 5 = .ok (.iconst 0, 1) := by decide +kernel
theorem dX10_save_6 : decode cX10_save 6 = .ok (.istore_n 1, 1) := by decide +kernel
theorem dX10_save_7 : decode cX10_save 7 = .ok (.iload_n 1, 1) := by decide +kernel
theorem dX10_save_8 : decode cX10_save 8 = .ok (.sipush 830, 3) := by decide +kernel
theorem dX10_save_11 : decode cX10_save 11 = .ok (.if_icmp .ge 21, 3) := by decide +kernel
theorem dX10_save_14 : decode cX10_save 14 = .ok (.aload_n 0, 1) := by decide +kernel
theorem dX10_save_15 : decode cX10_save 15 = .ok (.getfield 18, 3) := by decide +kernel
theorem dX10_save_18 : decode cX10_save 18 = .ok (.iload_n 1, 1) := by decide +kernel
theorem dX10_save_19 : decode cX10_save 19 = .ok (.aload_n 0, 1) := by decide +kernel
theorem dX10_save_20 : decode cX10_save 20 = .ok (.getfield 9, 3) := by decide +kernel
theorem dX10_save_23 : decode cX10_save 23 = .ok (.iload_n 1, 1) := by decide +kernel
theorem dX10_save_24 : decode cX10_save 24 = .ok (.iaload, 1) := by decide +kernel
theorem dX10_save_25 : decode cX10_save 25 = .ok (.iastore, 1) := by decide +kernel
theorem dX10_save_26 : decode cX10_save 26 = .ok (.iinc 1 1, 3) := by decide +kernel
theorem dX10_save_29 : decode cX10_save 29 = .ok (.goto (-22), 3) := by decide +kernel
theorem dX10_save_32 : decode cX10_save 32 = .ok (.aload_n 0, 1) := by decide +kernel
theorem dX10_save_33 : decode cX10_save 33 = .ok (.iconst 1, 1) := by decide +kernel
theorem dX10_save_34 : decode cX10_save 34 = .ok (.putfield 163, 3) := by decide +kernel
theorem dX10_save_37 : decode cX10_save 37 = .ok (.aload_n 0, 1) := by decide +kernel
theorem dX10_save_38 : decode cX10_save 38 = .ok (.getfield 9, 3) := by decide +kernel
theorem dX10_save_41 : decode cX10_save 41 = .ok (.iconst 2, 1) := by decide +kernel
theorem dX10_save_42 : decode cX10_save 42 = .ok (.iaload, 1) := by decide +kernel
theorem dX10_save_43 : decode cX10_save 43 = .ok (.ireturn, 1) := by decide +kernel
theorem dX10_restore_0 : decode cX10_restore 0 = .ok (.aload_n 0, 1) := by decide +kernel
theorem dX10_restore_1 : decode cX10_restore 1 = .ok (.aload_n 0, 1) := by decide +kernel
theorem dX10_restore_2 : decode cX10_restore 2 = .ok (.getfield 163, 3) := by decide +kernel
theorem dX10_restore_5 : decode cX10_restore 5 = .ok (.ifCond .ne 7, 3) := by decide +kernel
theorem dX10_restore_8 : decode cX10_restore 8 = .ok (.iconst 1, 1) := by decide +kernel
theorem dX10_restore_9 : decode cX10_restore 9 = .ok (.goto 4, 3) := by decide +kernel
theorem dX10_restore_12 : decode cX10_restore 12 = .ok (.iconst 0, 1) := by decide +kernel
theorem dX10_restore_13 : decode cX10_restore 13 = .ok (.iconst 1, 1) := by decide +kernel
theorem dX10_restore_14 : decode cX10_restore 14 = .ok (.invokevirtual 51, 3) := by decide +kernel
theorem dX10_restore_17 : decode cX10_restore 17 = .ok (.ifCond .eq 5, 3) := by decide +kernel
theorem dX10_restore_20 : decode cX10_restore 20 = .ok (.iconst 0, 1) := by decide +kernel
theorem dX10_restore_21 : decode cX10_restore 21 = .ok (.ireturn, 1) := by decide +kernel
theorem dX10_restore_22 : decode cX10_restore 22 = .ok (.iconst 0, 1) := by decide +kernel
theorem dX10_restore_23 : decode cX10_restore 23 = .ok (.istore_n 1, 1) := by decide +kernel
theorem dX10_restore_24 : decode cX10_restore 24 = .ok (.iload_n 1, 1) := by decide +kernel
theorem dX10_restore_25 : decode cX10_restore 25 = .ok (.sipush 830, 3) := by decide +kernel
theorem dX10_restore_28 : decode cX10_restore 28 = .ok (.if_icmp .ge 21, 3) := by decide +kernel
theorem dX10_restore_31 : decode cX10_restore 31 = .ok (.aload_n 0, 1) := by decide +kernel
theorem dX10_restore_32 : decode cX10_restore 32 = .ok (.getfield 9, 3) := by decide +kernel
theorem dX10_restore_35 : decode cX10_restore 35 = .ok (.iload_n 1, 1) := by decide +kernel
theorem dX10_restore_36 : decode cX10_restore 36 = .ok (.aload_n 0, 1) := by decide +kernel
theorem dX10_restore_37 : decode cX10_restore 37 = .ok (.getfield 18, 3) := by decide +kernel
theorem dX10_restore_40 : decode cX10_restore 40 = .ok (.iload_n 1, 1) := by decide +kernel
theorem dX10_restore_41 : decode cX10_restore 41 = .ok (.iaload, 1) := by decide +kernel
theorem dX10_restore_42 : decode cX10_restore 42 = .ok (.iastore, 1) := by decide +kernel
theorem dX10_restore_43 : decode cX10_restore 43 = .ok (.iinc 1 1, 3) := by decide +kernel
theorem dX10_restore_46 : decode cX10_restore 46 = .ok (.goto (-22), 3) := by decide +kernel
theorem dX10_restore_49 : decode cX10_restore 49 = .ok (.aload_n 0, 1) := by decide +kernel
theorem dX10_restore_50 : decode cX10_restore 50 = .ok (.iconst 0, 1) := by decide +kernel
theorem dX10_restore_51 : decode cX10_restore 51 = .ok (.putfield 38, 3) := by decide +kernel
theorem dX10_restore_54 : decode cX10_restore 54 = .ok (.aload_n 0, 1) := by decide +kernel
theorem dX10_restore_55 : decode cX10_restore 55 = .ok (.getfield 9, 3) := by decide +kernel
theorem dX10_restore_58 : decode cX10_restore 58 = .ok (.iconst 2, 1) := by decide +kernel
theorem dX10_restore_59 : decode cX10_restore 59 = .ok (.iaload, 1) := by decide +kernel
theorem dX10_restore_60 : decode cX10_restore 60 = .ok (.ireturn, 1) := by decide +kernel
theorem dJx00060_init_a7421_0 : decode cJx00060_init_a7421 0 = .ok (.aload_n 0, 1) := by decide +kernel
theorem dJx00060_init_a7421_1 : decode cJx00060_init_a7421 1 = .ok (.aload_n 1, 1) := by decide +kernel
theorem dJx00060_init_a7421_2 : decode cJx00060_init_a7421 2 = .ok (.invokespecial 7, 3) := by decide +kernel
theorem dJx00060_init_a7421_5 : decode cJx00060_init_a7421 5 = .ok (.return_, 1) := by decide +kernel
theorem dJ9_max_7cf53_0 : decode cJ9_max_7cf53 0 = .ok (.iload_n 0, 1) := by decide +kernel
theorem dJ9_max_7cf53_1 : decode cJ9_max_7cf53 1 = .ok (.iload_n 1, 1) := by decide +kernel
theorem dJ9_max_7cf53_2 : decode cJ9_max_7cf53 2 = .ok (.if_icmp .lt 7, 3) := by decide +kernel
theorem dJ9_max_7cf53_5 : decode cJ9_max_7cf53 5 = .ok (.iload_n 0, 1) := by decide +kernel
theorem dJ9_max_7cf53_6 : decode cJ9_max_7cf53 6 = .ok (.goto 4, 3) := by decide +kernel
theorem dJ9_max_7cf53_9 : decode cJ9_max_7cf53 9 = .ok (.iload_n 1, 1) := by decide +kernel
theorem dJ9_max_7cf53_10 : decode cJ9_max_7cf53 10 = .ok (.ireturn, 1) := by decide +kernel
theorem dJ9_min_7cf53_0 : decode cJ9_min_7cf53 0 = .ok (.iload_n 0, 1) := by decide +kernel
theorem dJ9_min_7cf53_1 : decode cJ9_min_7cf53 1 = .ok (.iload_n 1, 1) := by decide +kernel
theorem dJ9_min_7cf53_2 : decode cJ9_min_7cf53 2 = .ok (.if_icmp .gt 7, 3) := by decide +kernel
theorem dJ9_min_7cf53_5 : decode cJ9_min_7cf53 5 = .ok (.iload_n 0, 1) := by decide +kernel
theorem dJ9_min_7cf53_6 : decode cJ9_min_7cf53 6 = .ok (.goto 4, 3) := by decide +kernel
theorem dJ9_min_7cf53_9 : decode cJ9_min_7cf53 9 = .ok (.iload_n 1, 1) := by decide +kernel
theorem dJ9_min_7cf53_10 : decode cJ9_min_7cf53 10 = .ok (.ireturn, 1) := by decide +kernel
theorem dL_pass_0 : decode cL_pass 0 = .ok (.aload_n 2, 1) := by decide +kernel
theorem dL_pass_1 : decode cL_pass 1 = .ok (.iconst 0, 1) := by decide +kernel
theorem dL_pass_2 : decode cL_pass 2 = .ok (.aload_n 0, 1) := by decide +kernel
theorem dL_pass_3 : decode cL_pass 3 = .ok (.iload_n 1, 1) := by decide +kernel
theorem dL_pass_4 : decode cL_pass 4 = .ok (.invokevirtual 7, 3) := by decide +kernel
theorem dL_pass_7 : decode cL_pass 7 = .ok (.i2l, 1) := by decide +kernel
theorem dL_pass_8 : decode cL_pass 8 = .ok (.lastore, 1) := by decide +kernel
theorem dL_pass_9 : decode cL_pass 9 = .ok (.goto 9, 3) := by decide +kernel
theorem dL_pass_12 : decode cL_pass 12 = .ok (.astore_n 3, 1) := by decide +kernel
theorem dL_pass_13 : decode cL_pass 13 = .ok (.iconst 1, 1) := by decide +kernel
theorem dL_pass_14 : decode cL_pass 14 = .ok (.ireturn, 1) := by decide +kernel
theorem dL_pass_15 : decode cL_pass 15 = .ok (.astore_n 3, 1) := by decide +kernel
theorem dL_pass_16 : decode cL_pass 16 = .ok (.iconst 2, 1) := by decide +kernel
theorem dL_pass_17 : decode cL_pass 17 = .ok (.ireturn, 1) := by decide +kernel
theorem dL_pass_18 : decode cL_pass 18 = .ok (.iconst 0, 1) := by decide +kernel
theorem dL_pass_19 : decode cL_pass 19 = .ok (.ireturn, 1) := by decide +kernel
theorem dL_addTest_0 : decode cL_addTest 0 = .ok (.aload_n 3, 1) := by decide +kernel
theorem dL_addTest_1 : decode cL_addTest 1 = .ok (.iconst 0, 1) := by decide +kernel
theorem dL_addTest_2 : decode cL_addTest 2 = .ok (.aload_n 0, 1) := by decide +kernel
theorem dL_addTest_3 : decode cL_addTest 3 = .ok (.iload_n 1, 1) := by decide +kernel
theorem dL_addTest_4 : decode cL_addTest 4 = .ok (.iload_n 2, 1) := by decide +kernel
theorem dL_addTest_5 : decode cL_addTest 5 = .ok (.invokevirtual 17, 3) := by decide +kernel
theorem dL_addTest_8 : decode cL_addTest 8 = .ok (.i2l, 1) := by decide +kernel
theorem dL_addTest_9 : decode cL_addTest 9 = .ok (.lastore, 1) := by decide +kernel
theorem dL_addTest_10 : decode cL_addTest 10 = .ok (.goto 11, 3) := by decide +kernel
theorem dL_addTest_13 : decode cL_addTest 13 = .ok (.astore 4, 2) := by decide +kernel
theorem dL_addTest_15 : decode cL_addTest 15 = .ok (.iconst 1, 1) := by decide +kernel
theorem dL_addTest_16 : decode cL_addTest 16 = .ok (.ireturn, 1) := by decide +kernel
theorem dL_addTest_17 : decode cL_addTest 17 = .ok (.astore 4, 2) := by decide +kernel
theorem dL_addTest_19 : decode cL_addTest 19 = .ok (.iconst 2, 1) := by decide +kernel
theorem dL_addTest_20 : decode cL_addTest 20 = .ok (.ireturn, 1) := by decide +kernel
theorem dL_addTest_21 : decode cL_addTest 21 = .ok (.iconst 0, 1) := by decide +kernel
theorem dL_addTest_22 : decode cL_addTest 22 = .ok (.ireturn, 1) := by decide +kernel
theorem dL_removeTest_0 : decode cL_removeTest 0 = .ok (.aload_n 2, 1) := by decide +kernel
theorem dL_removeTest_1 : decode cL_removeTest 1 = .ok (.iconst 0, 1) := by decide +kernel
theorem dL_removeTest_2 : decode cL_removeTest 2 = .ok (.aload_n 0, 1) := by decide +kernel
theorem dL_removeTest_3 : decode cL_removeTest 3 = .ok (.iload_n 1, 1) := by decide +kernel
theorem dL_removeTest_4 : decode cL_removeTest 4 = .ok (.invokevirtual 21, 3) := by decide +kernel
theorem dL_removeTest_7 : decode cL_removeTest 7 = .ok (.i2l, 1) := by decide +kernel
theorem dL_removeTest_8 : decode cL_removeTest 8 = .ok (.lastore, 1) := by decide +kernel
theorem dL_removeTest_9 : decode cL_removeTest 9 = .ok (.goto 6, 3) := by decide +kernel
theorem dL_removeTest_12 : decode cL_removeTest 12 = .ok (.astore_n 3, 1) := by decide +kernel
theorem dL_removeTest_13 : decode cL_removeTest 13 = .ok (.iconst 1, 1) := by decide +kernel
theorem dL_removeTest_14 : decode cL_removeTest 14 = .ok (.ireturn, 1) := by decide +kernel
theorem dL_removeTest_15 : decode cL_removeTest 15 = .ok (.iconst 0, 1) := by decide +kernel
theorem dL_removeTest_16 : decode cL_removeTest 16 = .ok (.ireturn, 1) := by decide +kernel
theorem dL_thresholdOn_0 : decode cL_thresholdOn 0 = .ok (.aload_n 2, 1) := by decide +kernel
theorem dL_thresholdOn_1 : decode cL_thresholdOn 1 = .ok (.iconst 0, 1) := by decide +kernel
theorem dL_thresholdOn_2 : decode cL_thresholdOn 2 = .ok (.aload_n 0, 1) := by decide +kernel
theorem dL_thresholdOn_3 : decode cL_thresholdOn 3 = .ok (.iload_n 1, 1) := by decide +kernel
theorem dL_thresholdOn_4 : decode cL_thresholdOn 4 = .ok (.invokevirtual 26, 3) := by decide +kernel
theorem dL_thresholdOn_7 : decode cL_thresholdOn 7 = .ok (.i2l, 1) := by decide +kernel
theorem dL_thresholdOn_8 : decode cL_thresholdOn 8 = .ok (.lastore, 1) := by decide +kernel
theorem dL_thresholdOn_9 : decode cL_thresholdOn 9 = .ok (.goto 6, 3) := by decide +kernel
theorem dL_thresholdOn_12 : decode cL_thresholdOn 12 = .ok (.astore_n 3, 1) := by decide +kernel
theorem dL_thresholdOn_13 : decode cL_thresholdOn 13 = .ok (.iconst 1, 1) := by decide +kernel
theorem dL_thresholdOn_14 : decode cL_thresholdOn 14 = .ok (.ireturn, 1) := by decide +kernel
theorem dL_thresholdOn_15 : decode cL_thresholdOn 15 = .ok (.iconst 0, 1) := by decide +kernel
theorem dL_thresholdOn_16 : decode cL_thresholdOn 16 = .ok (.ireturn, 1) := by decide +kernel
theorem dL_setBound_0 : decode cL_setBound 0 = .ok (.aload_n 3, 1) := by decide +kernel
theorem dL_setBound_1 : decode cL_setBound 1 = .ok (.iconst 0, 1) := by decide +kernel
theorem dL_setBound_2 : decode cL_setBound 2 = .ok (.aload_n 0, 1) := by decide +kernel
theorem dL_setBound_3 : decode cL_setBound 3 = .ok (.iload_n 1, 1) := by decide +kernel
theorem dL_setBound_4 : decode cL_setBound 4 = .ok (.iload_n 2, 1) := by decide +kernel
theorem dL_setBound_5 : decode cL_setBound 5 = .ok (.invokevirtual 29, 3) := by decide +kernel
theorem dL_setBound_8 : decode cL_setBound 8 = .ok (.i2l, 1) := by decide +kernel
theorem dL_setBound_9 : decode cL_setBound 9 = .ok (.lastore, 1) := by decide +kernel
theorem dL_setBound_10 : decode cL_setBound 10 = .ok (.goto 11, 3) := by decide +kernel
theorem dL_setBound_13 : decode cL_setBound 13 = .ok (.astore 4, 2) := by decide +kernel
theorem dL_setBound_15 : decode cL_setBound 15 = .ok (.iconst 1, 1) := by decide +kernel
theorem dL_setBound_16 : decode cL_setBound 16 = .ok (.ireturn, 1) := by decide +kernel
theorem dL_setBound_17 : decode cL_setBound 17 = .ok (.astore 4, 2) := by decide +kernel
theorem dL_setBound_19 : decode cL_setBound 19 = .ok (.iconst 2, 1) := by decide +kernel
theorem dL_setBound_20 : decode cL_setBound 20 = .ok (.ireturn, 1) := by decide +kernel
theorem dL_setBound_21 : decode cL_setBound 21 = .ok (.iconst 0, 1) := by decide +kernel
theorem dL_setBound_22 : decode cL_setBound 22 = .ok (.ireturn, 1) := by decide +kernel
theorem dL_boundOf_0 : decode cL_boundOf 0 = .ok (.aload_n 2, 1) := by decide +kernel
theorem dL_boundOf_1 : decode cL_boundOf 1 = .ok (.iconst 0, 1) := by decide +kernel
theorem dL_boundOf_2 : decode cL_boundOf 2 = .ok (.aload_n 0, 1) := by decide +kernel
theorem dL_boundOf_3 : decode cL_boundOf 3 = .ok (.iload_n 1, 1) := by decide +kernel
theorem dL_boundOf_4 : decode cL_boundOf 4 = .ok (.invokevirtual 32, 3) := by decide +kernel
theorem dL_boundOf_7 : decode cL_boundOf 7 = .ok (.i2l, 1) := by decide +kernel
theorem dL_boundOf_8 : decode cL_boundOf 8 = .ok (.lastore, 1) := by decide +kernel
theorem dL_boundOf_9 : decode cL_boundOf 9 = .ok (.goto 6, 3) := by decide +kernel
theorem dL_boundOf_12 : decode cL_boundOf 12 = .ok (.astore_n 3, 1) := by decide +kernel
theorem dL_boundOf_13 : decode cL_boundOf 13 = .ok (.iconst 1, 1) := by decide +kernel
theorem dL_boundOf_14 : decode cL_boundOf 14 = .ok (.ireturn, 1) := by decide +kernel
theorem dL_boundOf_15 : decode cL_boundOf 15 = .ok (.iconst 0, 1) := by decide +kernel
theorem dL_boundOf_16 : decode cL_boundOf 16 = .ok (.ireturn, 1) := by decide +kernel
theorem dL_setWeight_0 : decode cL_setWeight 0 = .ok (.aload_n 3, 1) := by decide +kernel
theorem dL_setWeight_1 : decode cL_setWeight 1 = .ok (.iconst 0, 1) := by decide +kernel
theorem dL_setWeight_2 : decode cL_setWeight 2 = .ok (.aload_n 0, 1) := by decide +kernel
theorem dL_setWeight_3 : decode cL_setWeight 3 = .ok (.iload_n 1, 1) := by decide +kernel
theorem dL_setWeight_4 : decode cL_setWeight 4 = .ok (.iload_n 2, 1) := by decide +kernel
theorem dL_setWeight_5 : decode cL_setWeight 5 = .ok (.invokevirtual 35, 3) := by decide +kernel
theorem dL_setWeight_8 : decode cL_setWeight 8 = .ok (.i2l, 1) := by decide +kernel
theorem dL_setWeight_9 : decode cL_setWeight 9 = .ok (.lastore, 1) := by decide +kernel
theorem dL_setWeight_10 : decode cL_setWeight 10 = .ok (.goto 7, 3) := by decide +kernel
theorem dL_setWeight_13 : decode cL_setWeight 13 = .ok (.astore 4, 2) := by decide +kernel
theorem dL_setWeight_15 : decode cL_setWeight 15 = .ok (.iconst 1, 1) := by decide +kernel
theorem dL_setWeight_16 : decode cL_setWeight 16 = .ok (.ireturn, 1) := by decide +kernel
theorem dL_setWeight_17 : decode cL_setWeight 17 = .ok (.iconst 0, 1) := by decide +kernel
theorem dL_setWeight_18 : decode cL_setWeight 18 = .ok (.ireturn, 1) := by decide +kernel
theorem dL_weightOf_0 : decode cL_weightOf 0 = .ok (.aload_n 2, 1) := by decide +kernel
theorem dL_weightOf_1 : decode cL_weightOf 1 = .ok (.iconst 0, 1) := by decide +kernel
theorem dL_weightOf_2 : decode cL_weightOf 2 = .ok (.aload_n 0, 1) := by decide +kernel
theorem dL_weightOf_3 : decode cL_weightOf 3 = .ok (.iload_n 1, 1) := by decide +kernel
theorem dL_weightOf_4 : decode cL_weightOf 4 = .ok (.invokevirtual 38, 3) := by decide +kernel
theorem dL_weightOf_7 : decode cL_weightOf 7 = .ok (.i2l, 1) := by decide +kernel
theorem dL_weightOf_8 : decode cL_weightOf 8 = .ok (.lastore, 1) := by decide +kernel
theorem dL_weightOf_9 : decode cL_weightOf 9 = .ok (.goto 6, 3) := by decide +kernel
theorem dL_weightOf_12 : decode cL_weightOf 12 = .ok (.astore_n 3, 1) := by decide +kernel
theorem dL_weightOf_13 : decode cL_weightOf 13 = .ok (.iconst 1, 1) := by decide +kernel
theorem dL_weightOf_14 : decode cL_weightOf 14 = .ok (.ireturn, 1) := by decide +kernel
theorem dL_weightOf_15 : decode cL_weightOf 15 = .ok (.iconst 0, 1) := by decide +kernel
theorem dL_weightOf_16 : decode cL_weightOf 16 = .ok (.ireturn, 1) := by decide +kernel
theorem dL_zoneOf_0 : decode cL_zoneOf 0 = .ok (.aload_n 3, 1) := by decide +kernel
theorem dL_zoneOf_1 : decode cL_zoneOf 1 = .ok (.iconst 0, 1) := by decide +kernel
theorem dL_zoneOf_2 : decode cL_zoneOf 2 = .ok (.aload_n 0, 1) := by decide +kernel
theorem dL_zoneOf_3 : decode cL_zoneOf 3 = .ok (.iload_n 1, 1) := by decide +kernel
theorem dL_zoneOf_4 : decode cL_zoneOf 4 = .ok (.iload_n 2, 1) := by decide +kernel
theorem dL_zoneOf_5 : decode cL_zoneOf 5 = .ok (.invokevirtual 41, 3) := by decide +kernel
theorem dL_zoneOf_8 : decode cL_zoneOf 8 = .ok (.i2l, 1) := by decide +kernel
theorem dL_zoneOf_9 : decode cL_zoneOf 9 = .ok (.lastore, 1) := by decide +kernel
theorem dL_zoneOf_10 : decode cL_zoneOf 10 = .ok (.goto 7, 3) := by decide +kernel
theorem dL_zoneOf_13 : decode cL_zoneOf 13 = .ok (.astore 4, 2) := by decide +kernel
theorem dL_zoneOf_15 : decode cL_zoneOf 15 = .ok (.iconst 1, 1) := by decide +kernel
theorem dL_zoneOf_16 : decode cL_zoneOf 16 = .ok (.ireturn, 1) := by decide +kernel
theorem dL_zoneOf_17 : decode cL_zoneOf 17 = .ok (.iconst 0, 1) := by decide +kernel
theorem dL_zoneOf_18 : decode cL_zoneOf 18 = .ok (.ireturn, 1) := by decide +kernel
theorem dL_addSession_0 : decode cL_addSession 0 = .ok (.aload_n 2, 1) := by decide +kernel
theorem dL_addSession_1 : decode cL_addSession 1 = .ok (.iconst 0, 1) := by decide +kernel
theorem dL_addSession_2 : decode cL_addSession 2 = .ok (.aload_n 0, 1) := by decide +kernel
theorem dL_addSession_3 : decode cL_addSession 3 = .ok (.iload_n 1, 1) := by decide +kernel
theorem dL_addSession_4 : decode cL_addSession 4 = .ok (.invokevirtual 44, 3) := by decide +kernel
theorem dL_addSession_7 : decode cL_addSession 7 = .ok (.i2l, 1) := by decide +kernel
theorem dL_addSession_8 : decode cL_addSession 8 = .ok (.lastore, 1) := by decide +kernel
theorem dL_addSession_9 : decode cL_addSession 9 = .ok (.goto 9, 3) := by decide +kernel
theorem dL_addSession_12 : decode cL_addSession 12 = .ok (.astore_n 3, 1) := by decide +kernel
theorem dL_addSession_13 : decode cL_addSession 13 = .ok (.iconst 1, 1) := by decide +kernel
theorem dL_addSession_14 : decode cL_addSession 14 = .ok (.ireturn, 1) := by decide +kernel
theorem dL_addSession_15 : decode cL_addSession 15 = .ok (.astore_n 3, 1) := by decide +kernel
theorem dL_addSession_16 : decode cL_addSession 16 = .ok (.iconst 2, 1) := by decide +kernel
theorem dL_addSession_17 : decode cL_addSession 17 = .ok (.ireturn, 1) := by decide +kernel
theorem dL_addSession_18 : decode cL_addSession 18 = .ok (.iconst 0, 1) := by decide +kernel
theorem dL_addSession_19 : decode cL_addSession 19 = .ok (.ireturn, 1) := by decide +kernel
theorem dL_addPart_0 : decode cL_addPart 0 = .ok (.aload 4, 2) := by decide +kernel
theorem dL_addPart_2 : decode cL_addPart 2 = .ok (.iconst 0, 1) := by decide +kernel
theorem dL_addPart_3 : decode cL_addPart 3 = .ok (.aload_n 0, 1) := by decide +kernel
theorem dL_addPart_4 : decode cL_addPart 4 = .ok (.iload_n 1, 1) := by decide +kernel
theorem dL_addPart_5 : decode cL_addPart 5 = .ok (.iload_n 2, 1) := by decide +kernel
theorem dL_addPart_6 : decode cL_addPart 6 = .ok (.iload_n 3, 1) := by decide +kernel
theorem dL_addPart_7 : decode cL_addPart 7 = .ok (.invokevirtual 47, 3) := by decide +kernel
theorem dL_addPart_10 : decode cL_addPart 10 = .ok (.i2l, 1) := by decide +kernel
theorem dL_addPart_11 : decode cL_addPart 11 = .ok (.lastore, 1) := by decide +kernel
theorem dL_addPart_12 : decode cL_addPart 12 = .ok (.goto 15, 3) := by decide +kernel
theorem dL_addPart_15 : decode cL_addPart 15 = .ok (.astore 5, 2) := by decide +kernel
theorem dL_addPart_17 : decode cL_addPart 17 = .ok (.iconst 1, 1) := by decide +kernel
theorem dL_addPart_18 : decode cL_addPart 18 = .ok (.ireturn, 1) := by decide +kernel
theorem dL_addPart_19 : decode cL_addPart 19 = .ok (.astore 5, 2) := by decide +kernel
theorem dL_addPart_21 : decode cL_addPart 21 = .ok (.iconst 2, 1) := by decide +kernel
theorem dL_addPart_22 : decode cL_addPart 22 = .ok (.ireturn, 1) := by decide +kernel
theorem dL_addPart_23 : decode cL_addPart 23 = .ok (.astore 5, 2) := by decide +kernel
theorem dL_addPart_25 : decode cL_addPart 25 = .ok (.iconst 3, 1) := by decide +kernel
theorem dL_addPart_26 : decode cL_addPart 26 = .ok (.ireturn, 1) := by decide +kernel
theorem dL_addPart_27 : decode cL_addPart 27 = .ok (.iconst 0, 1) := by decide +kernel
theorem dL_addPart_28 : decode cL_addPart 28 = .ok (.ireturn, 1) := by decide +kernel
theorem dL_clearParts_0 : decode cL_clearParts 0 = .ok (.aload_n 2, 1) := by decide +kernel
theorem dL_clearParts_1 : decode cL_clearParts 1 = .ok (.iconst 0, 1) := by decide +kernel
theorem dL_clearParts_2 : decode cL_clearParts 2 = .ok (.aload_n 0, 1) := by decide +kernel
theorem dL_clearParts_3 : decode cL_clearParts 3 = .ok (.iload_n 1, 1) := by decide +kernel
theorem dL_clearParts_4 : decode cL_clearParts 4 = .ok (.invokevirtual 51, 3) := by decide +kernel
theorem dL_clearParts_7 : decode cL_clearParts 7 = .ok (.i2l, 1) := by decide +kernel
theorem dL_clearParts_8 : decode cL_clearParts 8 = .ok (.lastore, 1) := by decide +kernel
theorem dL_clearParts_9 : decode cL_clearParts 9 = .ok (.goto 6, 3) := by decide +kernel
theorem dL_clearParts_12 : decode cL_clearParts 12 = .ok (.astore_n 3, 1) := by decide +kernel
theorem dL_clearParts_13 : decode cL_clearParts 13 = .ok (.iconst 1, 1) := by decide +kernel
theorem dL_clearParts_14 : decode cL_clearParts 14 = .ok (.ireturn, 1) := by decide +kernel
theorem dL_clearParts_15 : decode cL_clearParts 15 = .ok (.iconst 0, 1) := by decide +kernel
theorem dL_clearParts_16 : decode cL_clearParts 16 = .ok (.ireturn, 1) := by decide +kernel
theorem dL_moveSession_0 : decode cL_moveSession 0 = .ok (.aload_n 3, 1) := by decide +kernel
theorem dL_moveSession_1 : decode cL_moveSession 1 = .ok (.iconst 0, 1) := by decide +kernel
theorem dL_moveSession_2 : decode cL_moveSession 2 = .ok (.aload_n 0, 1) := by decide +kernel
theorem dL_moveSession_3 : decode cL_moveSession 3 = .ok (.iload_n 1, 1) := by decide +kernel
theorem dL_moveSession_4 : decode cL_moveSession 4 = .ok (.iload_n 2, 1) := by decide +kernel
theorem dL_moveSession_5 : decode cL_moveSession 5 = .ok (.invokevirtual 54, 3) := by decide +kernel
theorem dL_moveSession_8 : decode cL_moveSession 8 = .ok (.i2l, 1) := by decide +kernel
theorem dL_moveSession_9 : decode cL_moveSession 9 = .ok (.lastore, 1) := by decide +kernel
theorem dL_moveSession_10 : decode cL_moveSession 10 = .ok (.goto 11, 3) := by decide +kernel
theorem dL_moveSession_13 : decode cL_moveSession 13 = .ok (.astore 4, 2) := by decide +kernel
theorem dL_moveSession_15 : decode cL_moveSession 15 = .ok (.iconst 1, 1) := by decide +kernel
theorem dL_moveSession_16 : decode cL_moveSession 16 = .ok (.ireturn, 1) := by decide +kernel
theorem dL_moveSession_17 : decode cL_moveSession 17 = .ok (.astore 4, 2) := by decide +kernel
theorem dL_moveSession_19 : decode cL_moveSession 19 = .ok (.iconst 2, 1) := by decide +kernel
theorem dL_moveSession_20 : decode cL_moveSession 20 = .ok (.ireturn, 1) := by decide +kernel
theorem dL_moveSession_21 : decode cL_moveSession 21 = .ok (.iconst 0, 1) := by decide +kernel
theorem dL_moveSession_22 : decode cL_moveSession 22 = .ok (.ireturn, 1) := by decide +kernel
theorem dL_removeSession_0 : decode cL_removeSession 0 = .ok (.aload_n 2, 1) := by decide +kernel
theorem dL_removeSession_1 : decode cL_removeSession 1 = .ok (.iconst 0, 1) := by decide +kernel
theorem dL_removeSession_2 : decode cL_removeSession 2 = .ok (.aload_n 0, 1) := by decide +kernel
theorem dL_removeSession_3 : decode cL_removeSession 3 = .ok (.iload_n 1, 1) := by decide +kernel
theorem dL_removeSession_4 : decode cL_removeSession 4 = .ok (.invokevirtual 57, 3) := by decide +kernel
theorem dL_removeSession_7 : decode cL_removeSession 7 = .ok (.i2l, 1) := by decide +kernel
theorem dL_removeSession_8 : decode cL_removeSession 8 = .ok (.lastore, 1) := by decide +kernel
theorem dL_removeSession_9 : decode cL_removeSession 9 = .ok (.goto 6, 3) := by decide +kernel
theorem dL_removeSession_12 : decode cL_removeSession 12 = .ok (.astore_n 3, 1) := by decide +kernel
theorem dL_removeSession_13 : decode cL_removeSession 13 = .ok (.iconst 1, 1) := by decide +kernel
theorem dL_removeSession_14 : decode cL_removeSession 14 = .ok (.ireturn, 1) := by decide +kernel
theorem dL_removeSession_15 : decode cL_removeSession 15 = .ok (.iconst 0, 1) := by decide +kernel
theorem dL_removeSession_16 : decode cL_removeSession 16 = .ok (.ireturn, 1) := by decide +kernel
theorem dL_sessionAt_0 : decode cL_sessionAt 0 = .ok (.aload_n 2, 1) := by decide +kernel
theorem dL_sessionAt_1 : decode cL_sessionAt 1 = .ok (.iconst 0, 1) := by decide +kernel
theorem dL_sessionAt_2 : decode cL_sessionAt 2 = .ok (.aload_n 0, 1) := by decide +kernel
theorem dL_sessionAt_3 : decode cL_sessionAt 3 = .ok (.iload_n 1, 1) := by decide +kernel
theorem dL_sessionAt_4 : decode cL_sessionAt 4 = .ok (.invokevirtual 60, 3) := by decide +kernel
theorem dL_sessionAt_7 : decode cL_sessionAt 7 = .ok (.i2l, 1) := by decide +kernel
theorem dL_sessionAt_8 : decode cL_sessionAt 8 = .ok (.lastore, 1) := by decide +kernel
theorem dL_sessionAt_9 : decode cL_sessionAt 9 = .ok (.goto 6, 3) := by decide +kernel
theorem dL_sessionAt_12 : decode cL_sessionAt 12 = .ok (.astore_n 3, 1) := by decide +kernel
theorem dL_sessionAt_13 : decode cL_sessionAt 13 = .ok (.iconst 1, 1) := by decide +kernel
theorem dL_sessionAt_14 : decode cL_sessionAt 14 = .ok (.ireturn, 1) := by decide +kernel
theorem dL_sessionAt_15 : decode cL_sessionAt 15 = .ok (.iconst 0, 1) := by decide +kernel
theorem dL_sessionAt_16 : decode cL_sessionAt 16 = .ok (.ireturn, 1) := by decide +kernel
theorem dL_dayOf_0 : decode cL_dayOf 0 = .ok (.aload_n 2, 1) := by decide +kernel
theorem dL_dayOf_1 : decode cL_dayOf 1 = .ok (.iconst 0, 1) := by decide +kernel
theorem dL_dayOf_2 : decode cL_dayOf 2 = .ok (.aload_n 0, 1) := by decide +kernel
theorem dL_dayOf_3 : decode cL_dayOf 3 = .ok (.iload_n 1, 1) := by decide +kernel
theorem dL_dayOf_4 : decode cL_dayOf 4 = .ok (.invokevirtual 65, 3) := by decide +kernel
theorem dL_dayOf_7 : decode cL_dayOf 7 = .ok (.i2l, 1) := by decide +kernel
theorem dL_dayOf_8 : decode cL_dayOf 8 = .ok (.lastore, 1) := by decide +kernel
theorem dL_dayOf_9 : decode cL_dayOf 9 = .ok (.goto 6, 3) := by decide +kernel
theorem dL_dayOf_12 : decode cL_dayOf 12 = .ok (.astore_n 3, 1) := by decide +kernel
theorem dL_dayOf_13 : decode cL_dayOf 13 = .ok (.iconst 1, 1) := by decide +kernel
theorem dL_dayOf_14 : decode cL_dayOf 14 = .ok (.ireturn, 1) := by decide +kernel
theorem dL_dayOf_15 : decode cL_dayOf 15 = .ok (.iconst 0, 1) := by decide +kernel
theorem dL_dayOf_16 : decode cL_dayOf 16 = .ok (.ireturn, 1) := by decide +kernel
theorem dL_minutesOf_0 : decode cL_minutesOf 0 = .ok (.aload_n 2, 1) := by decide +kernel
theorem dL_minutesOf_1 : decode cL_minutesOf 1 = .ok (.iconst 0, 1) := by decide +kernel
theorem dL_minutesOf_2 : decode cL_minutesOf 2 = .ok (.aload_n 0, 1) := by decide +kernel
theorem dL_minutesOf_3 : decode cL_minutesOf 3 = .ok (.iload_n 1, 1) := by decide +kernel
theorem dL_minutesOf_4 : decode cL_minutesOf 4 = .ok (.invokevirtual 68, 3) := by decide +kernel
theorem dL_minutesOf_7 : decode cL_minutesOf 7 = .ok (.i2l, 1) := by decide +kernel
theorem dL_minutesOf_8 : decode cL_minutesOf 8 = .ok (.lastore, 1) := by decide +kernel
theorem dL_minutesOf_9 : decode cL_minutesOf 9 = .ok (.goto 6, 3) := by decide +kernel
theorem dL_minutesOf_12 : decode cL_minutesOf 12 = .ok (.astore_n 3, 1) := by decide +kernel
theorem dL_minutesOf_13 : decode cL_minutesOf 13 = .ok (.iconst 1, 1) := by decide +kernel
theorem dL_minutesOf_14 : decode cL_minutesOf 14 = .ok (.ireturn, 1) := by decide +kernel
theorem dL_minutesOf_15 : decode cL_minutesOf 15 = .ok (.iconst 0, 1) := by decide +kernel
theorem dL_minutesOf_16 : decode cL_minutesOf 16 = .ok (.ireturn, 1) := by decide +kernel
theorem dL_minutesInZone_0 : decode cL_minutesInZone 0 = .ok (.aload_n 3, 1) := by decide +kernel
theorem dL_minutesInZone_1 : decode cL_minutesInZone 1 = .ok (.iconst 0, 1) := by decide +kernel
theorem dL_minutesInZone_2 : decode cL_minutesInZone 2 = .ok (.aload_n 0, 1) := by decide +kernel
theorem dL_minutesInZone_3 : decode cL_minutesInZone 3 = .ok (.iload_n 1, 1) := by decide +kernel
theorem dL_minutesInZone_4 : decode cL_minutesInZone 4 = .ok (.iload_n 2, 1) := by decide +kernel
theorem dL_minutesInZone_5 : decode cL_minutesInZone 5 = .ok (.invokevirtual 71, 3) := by decide +kernel
theorem dL_minutesInZone_8 : decode cL_minutesInZone 8 = .ok (.i2l, 1) := by decide +kernel
theorem dL_minutesInZone_9 : decode cL_minutesInZone 9 = .ok (.lastore, 1) := by decide +kernel
theorem dL_minutesInZone_10 : decode cL_minutesInZone 10 = .ok (.goto 11, 3) := by decide +kernel
theorem dL_minutesInZone_13 : decode cL_minutesInZone 13 = .ok (.astore 4, 2) := by decide +kernel
theorem dL_minutesInZone_15 : decode cL_minutesInZone 15 = .ok (.iconst 1, 1) := by decide +kernel
theorem dL_minutesInZone_16 : decode cL_minutesInZone 16 = .ok (.ireturn, 1) := by decide +kernel
theorem dL_minutesInZone_17 : decode cL_minutesInZone 17 = .ok (.astore 4, 2) := by decide +kernel
theorem dL_minutesInZone_19 : decode cL_minutesInZone 19 = .ok (.iconst 2, 1) := by decide +kernel
theorem dL_minutesInZone_20 : decode cL_minutesInZone 20 = .ok (.ireturn, 1) := by decide +kernel
theorem dL_minutesInZone_21 : decode cL_minutesInZone 21 = .ok (.iconst 0, 1) := by decide +kernel
theorem dL_minutesInZone_22 : decode cL_minutesInZone 22 = .ok (.ireturn, 1) := by decide +kernel
theorem dL_loadOf_0 : decode cL_loadOf 0 = .ok (.aload_n 2, 1) := by decide +kernel
theorem dL_loadOf_1 : decode cL_loadOf 1 = .ok (.iconst 0, 1) := by decide +kernel
theorem dL_loadOf_2 : decode cL_loadOf 2 = .ok (.aload_n 0, 1) := by decide +kernel
theorem dL_loadOf_3 : decode cL_loadOf 3 = .ok (.iload_n 1, 1) := by decide +kernel
theorem dL_loadOf_4 : decode cL_loadOf 4 = .ok (.invokevirtual 74, 3) := by decide +kernel
theorem dL_loadOf_7 : decode cL_loadOf 7 = .ok (.i2l, 1) := by decide +kernel
theorem dL_loadOf_8 : decode cL_loadOf 8 = .ok (.lastore, 1) := by decide +kernel
theorem dL_loadOf_9 : decode cL_loadOf 9 = .ok (.goto 6, 3) := by decide +kernel
theorem dL_loadOf_12 : decode cL_loadOf 12 = .ok (.astore_n 3, 1) := by decide +kernel
theorem dL_loadOf_13 : decode cL_loadOf 13 = .ok (.iconst 1, 1) := by decide +kernel
theorem dL_loadOf_14 : decode cL_loadOf 14 = .ok (.ireturn, 1) := by decide +kernel
theorem dL_loadOf_15 : decode cL_loadOf 15 = .ok (.iconst 0, 1) := by decide +kernel
theorem dL_loadOf_16 : decode cL_loadOf 16 = .ok (.ireturn, 1) := by decide +kernel
theorem dL_loadOn_0 : decode cL_loadOn 0 = .ok (.aload_n 2, 1) := by decide +kernel
theorem dL_loadOn_1 : decode cL_loadOn 1 = .ok (.iconst 0, 1) := by decide +kernel
theorem dL_loadOn_2 : decode cL_loadOn 2 = .ok (.aload_n 0, 1) := by decide +kernel
theorem dL_loadOn_3 : decode cL_loadOn 3 = .ok (.iload_n 1, 1) := by decide +kernel
theorem dL_loadOn_4 : decode cL_loadOn 4 = .ok (.invokevirtual 77, 3) := by decide +kernel
theorem dL_loadOn_7 : decode cL_loadOn 7 = .ok (.i2l, 1) := by decide +kernel
theorem dL_loadOn_8 : decode cL_loadOn 8 = .ok (.lastore, 1) := by decide +kernel
theorem dL_loadOn_9 : decode cL_loadOn 9 = .ok (.goto 6, 3) := by decide +kernel
theorem dL_loadOn_12 : decode cL_loadOn 12 = .ok (.astore_n 3, 1) := by decide +kernel
theorem dL_loadOn_13 : decode cL_loadOn 13 = .ok (.iconst 1, 1) := by decide +kernel
theorem dL_loadOn_14 : decode cL_loadOn 14 = .ok (.ireturn, 1) := by decide +kernel
theorem dL_loadOn_15 : decode cL_loadOn 15 = .ok (.iconst 0, 1) := by decide +kernel
theorem dL_loadOn_16 : decode cL_loadOn 16 = .ok (.ireturn, 1) := by decide +kernel
theorem dL_zoneShare_0 : decode cL_zoneShare 0 = .ok (.aload_n 2, 1) := by decide +kernel
theorem dL_zoneShare_1 : decode cL_zoneShare 1 = .ok (.iconst 0, 1) := by decide +kernel
theorem dL_zoneShare_2 : decode cL_zoneShare 2 = .ok (.aload_n 0, 1) := by decide +kernel
theorem dL_zoneShare_3 : decode cL_zoneShare 3 = .ok (.iload_n 1, 1) := by decide +kernel
theorem dL_zoneShare_4 : decode cL_zoneShare 4 = .ok (.invokevirtual 80, 3) := by decide +kernel
theorem dL_zoneShare_7 : decode cL_zoneShare 7 = .ok (.f2d, 1) := by decide +kernel
theorem dL_zoneShare_8 : decode cL_zoneShare 8 = .ok (.dastore, 1) := by decide +kernel
theorem dL_zoneShare_9 : decode cL_zoneShare 9 = .ok (.goto 9, 3) := by decide +kernel
theorem dL_zoneShare_12 : decode cL_zoneShare 12 = .ok (.astore_n 3, 1) := by decide +kernel
theorem dL_zoneShare_13 : decode cL_zoneShare 13 = .ok (.iconst 1, 1) := by decide +kernel
theorem dL_zoneShare_14 : decode cL_zoneShare 14 = .ok (.ireturn, 1) := by decide +kernel
theorem dL_zoneShare_15 : decode cL_zoneShare 15 = .ok (.astore_n 3, 1) := by decide +kernel
theorem dL_zoneShare_16 : decode cL_zoneShare 16 = .ok (.iconst 2, 1) := by decide +kernel
theorem dL_zoneShare_17 : decode cL_zoneShare 17 = .ok (.ireturn, 1) := by decide +kernel
theorem dL_zoneShare_18 : decode cL_zoneShare 18 = .ok (.iconst 0, 1) := by decide +kernel
theorem dL_zoneShare_19 : decode cL_zoneShare 19 = .ok (.ireturn, 1) := by decide +kernel
theorem dL_fitnessOn_0 : decode cL_fitnessOn 0 = .ok (.aload_n 2, 1) := by decide +kernel
theorem dL_fitnessOn_1 : decode cL_fitnessOn 1 = .ok (.iconst 0, 1) := by decide +kernel
theorem dL_fitnessOn_2 : decode cL_fitnessOn 2 = .ok (.aload_n 0, 1) := by decide +kernel
theorem dL_fitnessOn_3 : decode cL_fitnessOn 3 = .ok (.iload_n 1, 1) := by decide +kernel
theorem dL_fitnessOn_4 : decode cL_fitnessOn 4 = .ok (.invokevirtual 86, 3) := by decide +kernel
theorem dL_fitnessOn_7 : decode cL_fitnessOn 7 = .ok (.i2l, 1) := by decide +kernel
theorem dL_fitnessOn_8 : decode cL_fitnessOn 8 = .ok (.lastore, 1) := by decide +kernel
theorem dL_fitnessOn_9 : decode cL_fitnessOn 9 = .ok (.goto 6, 3) := by decide +kernel
theorem dL_fitnessOn_12 : decode cL_fitnessOn 12 = .ok (.astore_n 3, 1) := by decide +kernel
theorem dL_fitnessOn_13 : decode cL_fitnessOn 13 = .ok (.iconst 1, 1) := by decide +kernel
theorem dL_fitnessOn_14 : decode cL_fitnessOn 14 = .ok (.ireturn, 1) := by decide +kernel
theorem dL_fitnessOn_15 : decode cL_fitnessOn 15 = .ok (.iconst 0, 1) := by decide +kernel
theorem dL_fitnessOn_16 : decode cL_fitnessOn 16 = .ok (.ireturn, 1) := by decide +kernel
theorem dL_fitnessFromStart_0 : decode cL_fitnessFromStart 0 = .ok (.aload_n 2, 1) := by decide +kernel
theorem dL_fitnessFromStart_1 : decode cL_fitnessFromStart 1 = .ok (.iconst 0, 1) := by decide +kernel
theorem dL_fitnessFromStart_2 : decode cL_fitnessFromStart 2 = .ok (.aload_n 0, 1) := by decide +kernel
theorem dL_fitnessFromStart_3 : decode cL_fitnessFromStart 3 = .ok (.iload_n 1, 1) := by decide +kernel
theorem dL_fitnessFromStart_4 : decode cL_fitnessFromStart 4 = .ok (.invokevirtual 89, 3) := by decide +kernel
theorem dL_fitnessFromStart_7 : decode cL_fitnessFromStart 7 = .ok (.i2l, 1) := by decide +kernel
theorem dL_fitnessFromStart_8 : decode cL_fitnessFromStart 8 = .ok (.lastore, 1) := by decide +kernel
theorem dL_fitnessFromStart_9 : decode cL_fitnessFromStart 9 = .ok (.goto 6, 3) := by decide +kernel
theorem dL_fitnessFromStart_12 : decode cL_fitnessFromStart 12 = .ok (.astore_n 3, 1) := by decide +kernel
theorem dL_fitnessFromStart_13 : decode cL_fitnessFromStart 13 = .ok (.iconst 1, 1) := by decide +kernel
theorem dL_fitnessFromStart_14 : decode cL_fitnessFromStart 14 = .ok (.ireturn, 1) := by decide +kernel
theorem dL_fitnessFromStart_15 : decode cL_fitnessFromStart 15 = .ok (.iconst 0, 1) := by decide +kernel
theorem dL_fitnessFromStart_16 : decode cL_fitnessFromStart 16 = .ok (.ireturn, 1) := by decide +kernel
theorem dL_fatigueOn_0 : decode cL_fatigueOn 0 = .ok (.aload_n 2, 1) := by decide +kernel
theorem dL_fatigueOn_1 : decode cL_fatigueOn 1 = .ok (.iconst 0, 1) := by decide +kernel
theorem dL_fatigueOn_2 : decode cL_fatigueOn 2 = .ok (.aload_n 0, 1) := by decide +kernel
theorem dL_fatigueOn_3 : decode cL_fatigueOn 3 = .ok (.iload_n 1, 1) := by decide +kernel
theorem dL_fatigueOn_4 : decode cL_fatigueOn 4 = .ok (.invokevirtual 92, 3) := by decide +kernel
theorem dL_fatigueOn_7 : decode cL_fatigueOn 7 = .ok (.i2l, 1) := by decide +kernel
theorem dL_fatigueOn_8 : decode cL_fatigueOn 8 = .ok (.lastore, 1) := by decide +kernel
theorem dL_fatigueOn_9 : decode cL_fatigueOn 9 = .ok (.goto 6, 3) := by decide +kernel
theorem dL_fatigueOn_12 : decode cL_fatigueOn 12 = .ok (.astore_n 3, 1) := by decide +kernel
theorem dL_fatigueOn_13 : decode cL_fatigueOn 13 = .ok (.iconst 1, 1) := by decide +kernel
theorem dL_fatigueOn_14 : decode cL_fatigueOn 14 = .ok (.ireturn, 1) := by decide +kernel
theorem dL_fatigueOn_15 : decode cL_fatigueOn 15 = .ok (.iconst 0, 1) := by decide +kernel
theorem dL_fatigueOn_16 : decode cL_fatigueOn 16 = .ok (.ireturn, 1) := by decide +kernel
theorem dL_fatigueFromStart_0 : decode cL_fatigueFromStart 0 = .ok (.aload_n 2, 1) := by decide +kernel
theorem dL_fatigueFromStart_1 : decode cL_fatigueFromStart 1 = .ok (.iconst 0, 1) := by decide +kernel
theorem dL_fatigueFromStart_2 : decode cL_fatigueFromStart 2 = .ok (.aload_n 0, 1) := by decide +kernel
theorem dL_fatigueFromStart_3 : decode cL_fatigueFromStart 3 = .ok (.iload_n 1, 1) := by decide +kernel
theorem dL_fatigueFromStart_4 : decode cL_fatigueFromStart 4 = .ok (.invokevirtual 95, 3) := by decide +kernel
theorem dL_fatigueFromStart_7 : decode cL_fatigueFromStart 7 = .ok (.i2l, 1) := by decide +kernel
theorem dL_fatigueFromStart_8 : decode cL_fatigueFromStart 8 = .ok (.lastore, 1) := by decide +kernel
theorem dL_fatigueFromStart_9 : decode cL_fatigueFromStart 9 = .ok (.goto 6, 3) := by decide +kernel
theorem dL_fatigueFromStart_12 : decode cL_fatigueFromStart 12 = .ok (.astore_n 3, 1) := by decide +kernel
theorem dL_fatigueFromStart_13 : decode cL_fatigueFromStart 13 = .ok (.iconst 1, 1) := by decide +kernel
theorem dL_fatigueFromStart_14 : decode cL_fatigueFromStart 14 = .ok (.ireturn, 1) := by decide +kernel
theorem dL_fatigueFromStart_15 : decode cL_fatigueFromStart 15 = .ok (.iconst 0, 1) := by decide +kernel
theorem dL_fatigueFromStart_16 : decode cL_fatigueFromStart 16 = .ok (.ireturn, 1) := by decide +kernel
theorem dL_formOn_0 : decode cL_formOn 0 = .ok (.aload_n 2, 1) := by decide +kernel
theorem dL_formOn_1 : decode cL_formOn 1 = .ok (.iconst 0, 1) := by decide +kernel
theorem dL_formOn_2 : decode cL_formOn 2 = .ok (.aload_n 0, 1) := by decide +kernel
theorem dL_formOn_3 : decode cL_formOn 3 = .ok (.iload_n 1, 1) := by decide +kernel
theorem dL_formOn_4 : decode cL_formOn 4 = .ok (.invokevirtual 98, 3) := by decide +kernel
theorem dL_formOn_7 : decode cL_formOn 7 = .ok (.i2l, 1) := by decide +kernel
theorem dL_formOn_8 : decode cL_formOn 8 = .ok (.lastore, 1) := by decide +kernel
theorem dL_formOn_9 : decode cL_formOn 9 = .ok (.goto 6, 3) := by decide +kernel
theorem dL_formOn_12 : decode cL_formOn 12 = .ok (.astore_n 3, 1) := by decide +kernel
theorem dL_formOn_13 : decode cL_formOn 13 = .ok (.iconst 1, 1) := by decide +kernel
theorem dL_formOn_14 : decode cL_formOn 14 = .ok (.ireturn, 1) := by decide +kernel
theorem dL_formOn_15 : decode cL_formOn 15 = .ok (.iconst 0, 1) := by decide +kernel
theorem dL_formOn_16 : decode cL_formOn 16 = .ok (.ireturn, 1) := by decide +kernel
theorem dL_daysToForm_0 : decode cL_daysToForm 0 = .ok (.aload_n 2, 1) := by decide +kernel
theorem dL_daysToForm_1 : decode cL_daysToForm 1 = .ok (.iconst 0, 1) := by decide +kernel
theorem dL_daysToForm_2 : decode cL_daysToForm 2 = .ok (.aload_n 0, 1) := by decide +kernel
theorem dL_daysToForm_3 : decode cL_daysToForm 3 = .ok (.iload_n 1, 1) := by decide +kernel
theorem dL_daysToForm_4 : decode cL_daysToForm 4 = .ok (.invokevirtual 101, 3) := by decide +kernel
theorem dL_daysToForm_7 : decode cL_daysToForm 7 = .ok (.i2l, 1) := by decide +kernel
theorem dL_daysToForm_8 : decode cL_daysToForm 8 = .ok (.lastore, 1) := by decide +kernel
theorem dL_daysToForm_9 : decode cL_daysToForm 9 = .ok (.goto 9, 3) := by decide +kernel
theorem dL_daysToForm_12 : decode cL_daysToForm 12 = .ok (.astore_n 3, 1) := by decide +kernel
theorem dL_daysToForm_13 : decode cL_daysToForm 13 = .ok (.iconst 1, 1) := by decide +kernel
theorem dL_daysToForm_14 : decode cL_daysToForm 14 = .ok (.ireturn, 1) := by decide +kernel
theorem dL_daysToForm_15 : decode cL_daysToForm 15 = .ok (.astore_n 3, 1) := by decide +kernel
theorem dL_daysToForm_16 : decode cL_daysToForm 16 = .ok (.iconst 2, 1) := by decide +kernel
theorem dL_daysToForm_17 : decode cL_daysToForm 17 = .ok (.ireturn, 1) := by decide +kernel
theorem dL_daysToForm_18 : decode cL_daysToForm 18 = .ok (.iconst 0, 1) := by decide +kernel
theorem dL_daysToForm_19 : decode cL_daysToForm 19 = .ok (.ireturn, 1) := by decide +kernel
theorem dL_bestDays_0 : decode cL_bestDays 0 = .ok (.aload_n 2, 1) := by decide +kernel
theorem dL_bestDays_1 : decode cL_bestDays 1 = .ok (.iconst 0, 1) := by decide +kernel
theorem dL_bestDays_2 : decode cL_bestDays 2 = .ok (.aload_n 0, 1) := by decide +kernel
theorem dL_bestDays_3 : decode cL_bestDays 3 = .ok (.iload_n 1, 1) := by decide +kernel
theorem dL_bestDays_4 : decode cL_bestDays 4 = .ok (.invokevirtual 104, 3) := by decide +kernel
theorem dL_bestDays_7 : decode cL_bestDays 7 = .ok (.i2l, 1) := by decide +kernel
theorem dL_bestDays_8 : decode cL_bestDays 8 = .ok (.lastore, 1) := by decide +kernel
theorem dL_bestDays_9 : decode cL_bestDays 9 = .ok (.goto 9, 3) := by decide +kernel
theorem dL_bestDays_12 : decode cL_bestDays 12 = .ok (.astore_n 3, 1) := by decide +kernel
theorem dL_bestDays_13 : decode cL_bestDays 13 = .ok (.iconst 1, 1) := by decide +kernel
theorem dL_bestDays_14 : decode cL_bestDays 14 = .ok (.ireturn, 1) := by decide +kernel
theorem dL_bestDays_15 : decode cL_bestDays 15 = .ok (.astore_n 3, 1) := by decide +kernel
theorem dL_bestDays_16 : decode cL_bestDays 16 = .ok (.iconst 2, 1) := by decide +kernel
theorem dL_bestDays_17 : decode cL_bestDays 17 = .ok (.ireturn, 1) := by decide +kernel
theorem dL_bestDays_18 : decode cL_bestDays 18 = .ok (.iconst 0, 1) := by decide +kernel
theorem dL_bestDays_19 : decode cL_bestDays 19 = .ok (.ireturn, 1) := by decide +kernel
theorem dL_bestDaysByTrying_0 : decode cL_bestDaysByTrying 0 = .ok (.aload_n 2, 1) := by decide +kernel
theorem dL_bestDaysByTrying_1 : decode cL_bestDaysByTrying 1 = .ok (.iconst 0, 1) := by decide +kernel
theorem dL_bestDaysByTrying_2 : decode cL_bestDaysByTrying 2 = .ok (.aload_n 0, 1) := by decide +kernel
theorem dL_bestDaysByTrying_3 : decode cL_bestDaysByTrying 3 = .ok (.iload_n 1, 1) := by decide +kernel
theorem dL_bestDaysByTrying_4 : decode cL_bestDaysByTrying 4 = .ok (.invokevirtual 107, 3) := by decide +kernel
theorem dL_bestDaysByTrying_7 : decode cL_bestDaysByTrying 7 = .ok (.i2l, 1) := by decide +kernel
end
section
theorem dL_bestDaysByTrying_8 : decode cL_bestDaysByTrying 8 = .ok (.lastore, 1) := by decide +kernel
theorem dL_bestDaysByTrying_9 : decode cL_bestDaysByTrying 9 = .ok (.goto 9, 3) := by decide +kernel
theorem dL_bestDaysByTrying_12 : decode cL_bestDaysByTrying 12 = .ok (.astore_n 3, 1) := by decide +kernel
theorem dL_bestDaysByTrying_13 : decode cL_bestDaysByTrying 13 = .ok (.iconst 1, 1) := by decide +kernel
theorem dL_bestDaysByTrying_14 : decode cL_bestDaysByTrying 14 = .ok (.ireturn, 1) := by decide +kernel
theorem dL_bestDaysByTrying_15 : decode cL_bestDaysByTrying 15 = .ok (.astore_n 3, 1) := by decide +kernel
theorem dL_bestDaysByTrying_16 : decode cL_bestDaysByTrying 16 = .ok (.iconst 2, 1) := by decide +kernel
theorem dL_bestDaysByTrying_17 : decode cL_bestDaysByTrying 17 = .ok (.ireturn, 1) := by decide +kernel
theorem dL_bestDaysByTrying_18 : decode cL_bestDaysByTrying 18 = .ok (.iconst 0, 1) := by decide +kernel
theorem dL_bestDaysByTrying_19 : decode cL_bestDaysByTrying 19 = .ok (.ireturn, 1) := by decide +kernel
theorem dL_bestDaysStart_0 : decode cL_bestDaysStart 0 = .ok (.aload_n 2, 1) := by decide +kernel
theorem dL_bestDaysStart_1 : decode cL_bestDaysStart 1 = .ok (.iconst 0, 1) := by decide +kernel
theorem dL_bestDaysStart_2 : decode cL_bestDaysStart 2 = .ok (.aload_n 0, 1) := by decide +kernel
theorem dL_bestDaysStart_3 : decode cL_bestDaysStart 3 = .ok (.iload_n 1, 1) := by decide +kernel
theorem dL_bestDaysStart_4 : decode cL_bestDaysStart 4 = .ok (.invokevirtual 110, 3) := by decide +kernel
theorem dL_bestDaysStart_7 : decode cL_bestDaysStart 7 = .ok (.i2l, 1) := by decide +kernel
theorem dL_bestDaysStart_8 : decode cL_bestDaysStart 8 = .ok (.lastore, 1) := by decide +kernel
theorem dL_bestDaysStart_9 : decode cL_bestDaysStart 9 = .ok (.goto 9, 3) := by decide +kernel
theorem dL_bestDaysStart_12 : decode cL_bestDaysStart 12 = .ok (.astore_n 3, 1) := by decide +kernel
theorem dL_bestDaysStart_13 : decode cL_bestDaysStart 13 = .ok (.iconst 1, 1) := by decide +kernel
theorem dL_bestDaysStart_14 : decode cL_bestDaysStart 14 = .ok (.ireturn, 1) := by decide +kernel
theorem dL_bestDaysStart_15 : decode cL_bestDaysStart 15 = .ok (.astore_n 3, 1) := by decide +kernel
theorem dL_bestDaysStart_16 : decode cL_bestDaysStart 16 = .ok (.iconst 2, 1) := by decide +kernel
theorem dL_bestDaysStart_17 : decode cL_bestDaysStart 17 = .ok (.ireturn, 1) := by decide +kernel
theorem dL_bestDaysStart_18 : decode cL_bestDaysStart 18 = .ok (.iconst 0, 1) := by decide +kernel
theorem dL_bestDaysStart_19 : decode cL_bestDaysStart 19 = .ok (.ireturn, 1) := by decide +kernel
theorem dL_bestEffort_0 : decode cL_bestEffort 0 = .ok (.aload_n 2, 1) := by decide +kernel
theorem dL_bestEffort_1 : decode cL_bestEffort 1 = .ok (.iconst 0, 1) := by decide +kernel
theorem dL_bestEffort_2 : decode cL_bestEffort 2 = .ok (.aload_n 0, 1) := by decide +kernel
theorem dL_bestEffort_3 : decode cL_bestEffort 3 = .ok (.iload_n 1, 1) := by decide +kernel
theorem dL_bestEffort_4 : decode cL_bestEffort 4 = .ok (.invokevirtual 113, 3) := by decide +kernel
theorem dL_bestEffort_7 : decode cL_bestEffort 7 = .ok (.i2l, 1) := by decide +kernel
theorem dL_bestEffort_8 : decode cL_bestEffort 8 = .ok (.lastore, 1) := by decide +kernel
theorem dL_bestEffort_9 : decode cL_bestEffort 9 = .ok (.goto 9, 3) := by decide +kernel
theorem dL_bestEffort_12 : decode cL_bestEffort 12 = .ok (.astore_n 3, 1) := by decide +kernel
theorem dL_bestEffort_13 : decode cL_bestEffort 13 = .ok (.iconst 1, 1) := by decide +kernel
theorem dL_bestEffort_14 : decode cL_bestEffort 14 = .ok (.ireturn, 1) := by decide +kernel
theorem dL_bestEffort_15 : decode cL_bestEffort 15 = .ok (.astore_n 3, 1) := by decide +kernel
theorem dL_bestEffort_16 : decode cL_bestEffort 16 = .ok (.iconst 2, 1) := by decide +kernel
theorem dL_bestEffort_17 : decode cL_bestEffort 17 = .ok (.ireturn, 1) := by decide +kernel
theorem dL_bestEffort_18 : decode cL_bestEffort 18 = .ok (.iconst 0, 1) := by decide +kernel
theorem dL_bestEffort_19 : decode cL_bestEffort 19 = .ok (.ireturn, 1) := by decide +kernel
theorem dL_bestEffortByTrying_0 : decode cL_bestEffortByTrying 0 = .ok (.aload_n 2, 1) := by decide +kernel
theorem dL_bestEffortByTrying_1 : decode cL_bestEffortByTrying 1 = .ok (.iconst 0, 1) := by decide +kernel
theorem dL_bestEffortByTrying_2 : decode cL_bestEffortByTrying 2 = .ok (.aload_n 0, 1) := by decide +kernel
theorem dL_bestEffortByTrying_3 : decode cL_bestEffortByTrying 3 = .ok (.iload_n 1, 1) := by decide +kernel
theorem dL_bestEffortByTrying_4 : decode cL_bestEffortByTrying 4 = .ok (.invokevirtual 116, 3) := by decide +kernel
theorem dL_bestEffortByTrying_7 : decode cL_bestEffortByTrying 7 = .ok (.i2l, 1) := by decide +kernel
theorem dL_bestEffortByTrying_8 : decode cL_bestEffortByTrying 8 = .ok (.lastore, 1) := by decide +kernel
theorem dL_bestEffortByTrying_9 : decode cL_bestEffortByTrying 9 = .ok (.goto 9, 3) := by decide +kernel
theorem dL_bestEffortByTrying_12 : decode cL_bestEffortByTrying 12 = .ok (.astore_n 3, 1) := by decide +kernel
theorem dL_bestEffortByTrying_13 : decode cL_bestEffortByTrying 13 = .ok (.iconst 1, 1) := by decide +kernel
theorem dL_bestEffortByTrying_14 : decode cL_bestEffortByTrying 14 = .ok (.ireturn, 1) := by decide +kernel
theorem dL_bestEffortByTrying_15 : decode cL_bestEffortByTrying 15 = .ok (.astore_n 3, 1) := by decide +kernel
theorem dL_bestEffortByTrying_16 : decode cL_bestEffortByTrying 16 = .ok (.iconst 2, 1) := by decide +kernel
theorem dL_bestEffortByTrying_17 : decode cL_bestEffortByTrying 17 = .ok (.ireturn, 1) := by decide +kernel
theorem dL_bestEffortByTrying_18 : decode cL_bestEffortByTrying 18 = .ok (.iconst 0, 1) := by decide +kernel
theorem dL_bestEffortByTrying_19 : decode cL_bestEffortByTrying 19 = .ok (.ireturn, 1) := by decide +kernel
theorem dL_bestEffortSession_0 : decode cL_bestEffortSession 0 = .ok (.aload_n 2, 1) := by decide +kernel
theorem dL_bestEffortSession_1 : decode cL_bestEffortSession 1 = .ok (.iconst 0, 1) := by decide +kernel
theorem dL_bestEffortSession_2 : decode cL_bestEffortSession 2 = .ok (.aload_n 0, 1) := by decide +kernel
theorem dL_bestEffortSession_3 : decode cL_bestEffortSession 3 = .ok (.iload_n 1, 1) := by decide +kernel
theorem dL_bestEffortSession_4 : decode cL_bestEffortSession 4 = .ok (.invokevirtual 119, 3) := by decide +kernel
theorem dL_bestEffortSession_7 : decode cL_bestEffortSession 7 = .ok (.i2l, 1) := by decide +kernel
theorem dL_bestEffortSession_8 : decode cL_bestEffortSession 8 = .ok (.lastore, 1) := by decide +kernel
theorem dL_bestEffortSession_9 : decode cL_bestEffortSession 9 = .ok (.goto 9, 3) := by decide +kernel
theorem dL_bestEffortSession_12 : decode cL_bestEffortSession 12 = .ok (.astore_n 3, 1) := by decide +kernel
theorem dL_bestEffortSession_13 : decode cL_bestEffortSession 13 = .ok (.iconst 1, 1) := by decide +kernel
theorem dL_bestEffortSession_14 : decode cL_bestEffortSession 14 = .ok (.ireturn, 1) := by decide +kernel
theorem dL_bestEffortSession_15 : decode cL_bestEffortSession 15 = .ok (.astore_n 3, 1) := by decide +kernel
theorem dL_bestEffortSession_16 : decode cL_bestEffortSession 16 = .ok (.iconst 2, 1) := by decide +kernel
theorem dL_bestEffortSession_17 : decode cL_bestEffortSession 17 = .ok (.ireturn, 1) := by decide +kernel
theorem dL_bestEffortSession_18 : decode cL_bestEffortSession 18 = .ok (.iconst 0, 1) := by decide +kernel
theorem dL_bestEffortSession_19 : decode cL_bestEffortSession 19 = .ok (.ireturn, 1) := by decide +kernel
theorem dL_addTarget_0 : decode cL_addTarget 0 = .ok (.aload_n 2, 1) := by decide +kernel
theorem dL_addTarget_1 : decode cL_addTarget 1 = .ok (.iconst 0, 1) := by decide +kernel
theorem dL_addTarget_2 : decode cL_addTarget 2 = .ok (.aload_n 0, 1) := by decide +kernel
theorem dL_addTarget_3 : decode cL_addTarget 3 = .ok (.iload_n 1, 1) := by decide +kernel
theorem dL_addTarget_4 : decode cL_addTarget 4 = .ok (.invokevirtual 122, 3) := by decide +kernel
theorem dL_addTarget_7 : decode cL_addTarget 7 = .ok (.i2l, 1) := by decide +kernel
theorem dL_addTarget_8 : decode cL_addTarget 8 = .ok (.lastore, 1) := by decide +kernel
theorem dL_addTarget_9 : decode cL_addTarget 9 = .ok (.goto 9, 3) := by decide +kernel
theorem dL_addTarget_12 : decode cL_addTarget 12 = .ok (.astore_n 3, 1) := by decide +kernel
theorem dL_addTarget_13 : decode cL_addTarget 13 = .ok (.iconst 1, 1) := by decide +kernel
theorem dL_addTarget_14 : decode cL_addTarget 14 = .ok (.ireturn, 1) := by decide +kernel
theorem dL_addTarget_15 : decode cL_addTarget 15 = .ok (.astore_n 3, 1) := by decide +kernel
theorem dL_addTarget_16 : decode cL_addTarget 16 = .ok (.iconst 2, 1) := by decide +kernel
theorem dL_addTarget_17 : decode cL_addTarget 17 = .ok (.ireturn, 1) := by decide +kernel
theorem dL_addTarget_18 : decode cL_addTarget 18 = .ok (.iconst 0, 1) := by decide +kernel
theorem dL_addTarget_19 : decode cL_addTarget 19 = .ok (.ireturn, 1) := by decide +kernel
theorem dL_targetAt_0 : decode cL_targetAt 0 = .ok (.aload_n 2, 1) := by decide +kernel
theorem dL_targetAt_1 : decode cL_targetAt 1 = .ok (.iconst 0, 1) := by decide +kernel
theorem dL_targetAt_2 : decode cL_targetAt 2 = .ok (.aload_n 0, 1) := by decide +kernel
theorem dL_targetAt_3 : decode cL_targetAt 3 = .ok (.iload_n 1, 1) := by decide +kernel
theorem dL_targetAt_4 : decode cL_targetAt 4 = .ok (.invokevirtual 125, 3) := by decide +kernel
theorem dL_targetAt_7 : decode cL_targetAt 7 = .ok (.i2l, 1) := by decide +kernel
theorem dL_targetAt_8 : decode cL_targetAt 8 = .ok (.lastore, 1) := by decide +kernel
theorem dL_targetAt_9 : decode cL_targetAt 9 = .ok (.goto 6, 3) := by decide +kernel
theorem dL_targetAt_12 : decode cL_targetAt 12 = .ok (.astore_n 3, 1) := by decide +kernel
theorem dL_targetAt_13 : decode cL_targetAt 13 = .ok (.iconst 1, 1) := by decide +kernel
theorem dL_targetAt_14 : decode cL_targetAt 14 = .ok (.ireturn, 1) := by decide +kernel
theorem dL_targetAt_15 : decode cL_targetAt 15 = .ok (.iconst 0, 1) := by decide +kernel
theorem dL_targetAt_16 : decode cL_targetAt 16 = .ok (.ireturn, 1) := by decide +kernel
theorem dL_dueEntry_0 : decode cL_dueEntry 0 = .ok (.aload_n 1, 1) := by decide +kernel
theorem dL_dueEntry_1 : decode cL_dueEntry 1 = .ok (.iconst 0, 1) := by decide +kernel
theorem dL_dueEntry_2 : decode cL_dueEntry 2 = .ok (.aload_n 0, 1) := by decide +kernel
theorem dL_dueEntry_3 : decode cL_dueEntry 3 = .ok (.invokevirtual 128, 3) := by decide +kernel
theorem dL_dueEntry_6 : decode cL_dueEntry 6 = .ok (.i2l, 1) := by decide +kernel
theorem dL_dueEntry_7 : decode cL_dueEntry 7 = .ok (.lastore, 1) := by decide +kernel
theorem dL_dueEntry_8 : decode cL_dueEntry 8 = .ok (.goto 6, 3) := by decide +kernel
theorem dL_dueEntry_11 : decode cL_dueEntry 11 = .ok (.astore_n 2, 1) := by decide +kernel
theorem dL_dueEntry_12 : decode cL_dueEntry 12 = .ok (.iconst 1, 1) := by decide +kernel
theorem dL_dueEntry_13 : decode cL_dueEntry 13 = .ok (.ireturn, 1) := by decide +kernel
theorem dL_dueEntry_14 : decode cL_dueEntry 14 = .ok (.iconst 0, 1) := by decide +kernel
theorem dL_dueEntry_15 : decode cL_dueEntry 15 = .ok (.ireturn, 1) := by decide +kernel
theorem dL_planEnd_0 : decode cL_planEnd 0 = .ok (.aload_n 1, 1) := by decide +kernel
theorem dL_planEnd_1 : decode cL_planEnd 1 = .ok (.iconst 0, 1) := by decide +kernel
theorem dL_planEnd_2 : decode cL_planEnd 2 = .ok (.aload_n 0, 1) := by decide +kernel
theorem dL_planEnd_3 : decode cL_planEnd 3 = .ok (.invokevirtual 132, 3) := by decide +kernel
theorem dL_planEnd_6 : decode cL_planEnd 6 = .ok (.i2l, 1) := by decide +kernel
theorem dL_planEnd_7 : decode cL_planEnd 7 = .ok (.lastore, 1) := by decide +kernel
theorem dL_planEnd_8 : decode cL_planEnd 8 = .ok (.goto 6, 3) := by decide +kernel
theorem dL_planEnd_11 : decode cL_planEnd 11 = .ok (.astore_n 2, 1) := by decide +kernel
theorem dL_planEnd_12 : decode cL_planEnd 12 = .ok (.iconst 1, 1) := by decide +kernel
theorem dL_planEnd_13 : decode cL_planEnd 13 = .ok (.ireturn, 1) := by decide +kernel
theorem dL_planEnd_14 : decode cL_planEnd 14 = .ok (.iconst 0, 1) := by decide +kernel
theorem dL_planEnd_15 : decode cL_planEnd 15 = .ok (.ireturn, 1) := by decide +kernel
theorem dL_writeWeek_0 : decode cL_writeWeek 0 = .ok (.aload_n 2, 1) := by decide +kernel
theorem dL_writeWeek_1 : decode cL_writeWeek 1 = .ok (.iconst 0, 1) := by decide +kernel
theorem dL_writeWeek_2 : decode cL_writeWeek 2 = .ok (.aload_n 0, 1) := by decide +kernel
theorem dL_writeWeek_3 : decode cL_writeWeek 3 = .ok (.iload_n 1, 1) := by decide +kernel
theorem dL_writeWeek_4 : decode cL_writeWeek 4 = .ok (.invokevirtual 135, 3) := by decide +kernel
theorem dL_writeWeek_7 : decode cL_writeWeek 7 = .ok (.i2l, 1) := by decide +kernel
theorem dL_writeWeek_8 : decode cL_writeWeek 8 = .ok (.lastore, 1) := by decide +kernel
theorem dL_writeWeek_9 : decode cL_writeWeek 9 = .ok (.goto 6, 3) := by decide +kernel
theorem dL_writeWeek_12 : decode cL_writeWeek 12 = .ok (.astore_n 3, 1) := by decide +kernel
theorem dL_writeWeek_13 : decode cL_writeWeek 13 = .ok (.iconst 1, 1) := by decide +kernel
theorem dL_writeWeek_14 : decode cL_writeWeek 14 = .ok (.ireturn, 1) := by decide +kernel
theorem dL_writeWeek_15 : decode cL_writeWeek 15 = .ok (.iconst 0, 1) := by decide +kernel
theorem dL_writeWeek_16 : decode cL_writeWeek 16 = .ok (.ireturn, 1) := by decide +kernel
theorem dL_lineAt_0 : decode cL_lineAt 0 = .ok (.aload_n 2, 1) := by decide +kernel
theorem dL_lineAt_1 : decode cL_lineAt 1 = .ok (.iconst 0, 1) := by decide +kernel
theorem dL_lineAt_2 : decode cL_lineAt 2 = .ok (.aload_n 0, 1) := by decide +kernel
theorem dL_lineAt_3 : decode cL_lineAt 3 = .ok (.iload_n 1, 1) := by decide +kernel
theorem dL_lineAt_4 : decode cL_lineAt 4 = .ok (.invokevirtual 138, 3) := by decide +kernel
theorem dL_lineAt_7 : decode cL_lineAt 7 = .ok (.i2l, 1) := by decide +kernel
theorem dL_lineAt_8 : decode cL_lineAt 8 = .ok (.lastore, 1) := by decide +kernel
theorem dL_lineAt_9 : decode cL_lineAt 9 = .ok (.goto 6, 3) := by decide +kernel
theorem dL_lineAt_12 : decode cL_lineAt 12 = .ok (.astore_n 3, 1) := by decide +kernel
theorem dL_lineAt_13 : decode cL_lineAt 13 = .ok (.iconst 1, 1) := by decide +kernel
theorem dL_lineAt_14 : decode cL_lineAt 14 = .ok (.ireturn, 1) := by decide +kernel
theorem dL_lineAt_15 : decode cL_lineAt 15 = .ok (.iconst 0, 1) := by decide +kernel
theorem dL_lineAt_16 : decode cL_lineAt 16 = .ok (.ireturn, 1) := by decide +kernel
theorem dL_undo_0 : decode cL_undo 0 = .ok (.aload_n 1, 1) := by decide +kernel
theorem dL_undo_1 : decode cL_undo 1 = .ok (.iconst 0, 1) := by decide +kernel
theorem dL_undo_2 : decode cL_undo 2 = .ok (.aload_n 0, 1) := by decide +kernel
theorem dL_undo_3 : decode cL_undo 3 = .ok (.invokevirtual 142, 3) := by decide +kernel
theorem dL_undo_6 : decode cL_undo 6 = .ok (.i2l, 1) := by decide +kernel
theorem dL_undo_7 : decode cL_undo 7 = .ok (.lastore, 1) := by decide +kernel
theorem dL_undo_8 : decode cL_undo 8 = .ok (.goto 6, 3) := by decide +kernel
theorem dL_undo_11 : decode cL_undo 11 = .ok (.astore_n 2, 1) := by decide +kernel
theorem dL_undo_12 : decode cL_undo 12 = .ok (.iconst 1, 1) := by decide +kernel
theorem dL_undo_13 : decode cL_undo 13 = .ok (.ireturn, 1) := by decide +kernel
theorem dL_undo_14 : decode cL_undo 14 = .ok (.iconst 0, 1) := by decide +kernel
theorem dL_undo_15 : decode cL_undo 15 = .ok (.ireturn, 1) := by decide +kernel
theorem dL_restore_0 : decode cL_restore 0 = .ok (.aload_n 1, 1) := by decide +kernel
theorem dL_restore_1 : decode cL_restore 1 = .ok (.iconst 0, 1) := by decide +kernel
theorem dL_restore_2 : decode cL_restore 2 = .ok (.aload_n 0, 1) := by decide +kernel
theorem dL_restore_3 : decode cL_restore 3 = .ok (.invokevirtual 145, 3) := by decide +kernel
theorem dL_restore_6 : decode cL_restore 6 = .ok (.i2l, 1) := by decide +kernel
theorem dL_restore_7 : decode cL_restore 7 = .ok (.lastore, 1) := by decide +kernel
theorem dL_restore_8 : decode cL_restore 8 = .ok (.goto 6, 3) := by decide +kernel
theorem dL_restore_11 : decode cL_restore 11 = .ok (.astore_n 2, 1) := by decide +kernel
theorem dL_restore_12 : decode cL_restore 12 = .ok (.iconst 1, 1) := by decide +kernel
theorem dL_restore_13 : decode cL_restore 13 = .ok (.ireturn, 1) := by decide +kernel
theorem dL_restore_14 : decode cL_restore 14 = .ok (.iconst 0, 1) := by decide +kernel
theorem dL_restore_15 : decode cL_restore 15 = .ok (.ireturn, 1) := by decide +kernel
theorem dL_law_0 : decode cL_law 0 = .ok (.new 8, 3) := by decide +kernel
theorem dL_law_3 : decode cL_law 3 = .ok (.dup, 1) := by decide +kernel
theorem dL_law_4 : decode cL_law 4 = .ok (.invokespecial 148, 3) := by decide +kernel
theorem dL_law_7 : decode cL_law 7 = .ok (.astore_n 1, 1) := by decide +kernel
theorem dL_law_8 : decode cL_law 8 = .ok (.new 149, 3) := by decide +kernel
theorem dL_law_11 : decode cL_law 11 = .ok (.dup, 1) := by decide +kernel
theorem dL_law_12 : decode cL_law 12 = .ok (.invokespecial 151, 3) := by decide +kernel
theorem dL_law_15 : decode cL_law 15 = .ok (.astore_n 2, 1) := by decide +kernel
theorem dL_law_16 : decode cL_law 16 = .ok (.iconst 1, 1) := by decide +kernel
theorem dL_law_17 : decode cL_law 17 = .ok (.newarray .long, 2) := by decide +kernel
theorem dL_law_19 : decode cL_law 19 = .ok (.astore_n 3, 1) := by decide +kernel
theorem dL_law_20 : decode cL_law 20 = .ok (.iconst 1, 1) := by decide +kernel
theorem dL_law_21 : decode cL_law 21 = .ok (.newarray .double, 2) := by decide +kernel
theorem dL_law_23 : decode cL_law 23 = .ok (.astore 4, 2) := by decide +kernel
theorem dL_law_25 : decode cL_law 25 = .ok (.iconst 0, 1) := by decide +kernel
theorem dL_law_26 : decode cL_law 26 = .ok (.istore 5, 2) := by decide +kernel
theorem dL_law_28 : decode cL_law 28 = .ok (.iload 5, 2) := by decide +kernel
theorem dL_law_30 : decode cL_law 30 = .ok (.aload_n 0, 1) := by decide +kernel
theorem dL_law_31 : decode cL_law 31 = .ok (.arraylength, 1) := by decide +kernel
theorem dL_law_32 : decode cL_law 32 = .ok (.iconst 4, 1) := by decide +kernel
theorem dL_law_33 : decode cL_law 33 = .ok (.isub, 1) := by decide +kernel
theorem dL_law_34 : decode cL_law 34 = .ok (.if_icmp .gt 2760, 3) := by decide +kernel
theorem dL_law_37 : decode cL_law 37 = .ok (.aload_n 0, 1) := by decide +kernel
theorem dL_law_38 : decode cL_law 38 = .ok (.iload 5, 2) := by decide +kernel
theorem dL_law_40 : decode cL_law 40 = .ok (.iaload, 1) := by decide +kernel
theorem dL_law_41 : decode cL_law 41 = .ok (.bipush 63, 2) := by decide +kernel
theorem dL_law_43 : decode cL_law 43 = .ok (.iand, 1) := by decide +kernel
theorem dL_law_44 : decode cL_law 44 = .ok (.tableswitch 2744 0 50 #[220, 276, 289, 357, 413, 426, 482, 550, 606, 674, 730, 798, 854, 934, 990, 1058, 1114, 1127, 1183, 1239, 1295, 1363, 1419, 1475, 1553, 1594, 1650, 1706, 1762, 1818, 1874, 1887, 1943, 1999, 2055, 2111, 2167, 2223, 2279, 2292, 2348, 2404, 2448, 2461, 2474, 2518, 2531, 2587, 2643, 2687, 2700], 220) := by decide +kernel
theorem dL_law_264 : decode cL_law 264 = .ok (.aload_n 1, 1) := by decide +kernel
theorem dL_law_265 : decode cL_law 265 = .ok (.aload_n 0, 1) := by decide +kernel
theorem dL_law_266 : decode cL_law 266 = .ok (.iload 5, 2) := by decide +kernel
theorem dL_law_268 : decode cL_law 268 = .ok (.iconst 1, 1) := by decide +kernel
theorem dL_law_269 : decode cL_law 269 = .ok (.iadd, 1) := by decide +kernel
theorem dL_law_270 : decode cL_law 270 = .ok (.iaload, 1) := by decide +kernel
theorem dL_law_271 : decode cL_law 271 = .ok (.aload_n 3, 1) := by decide +kernel
theorem dL_law_272 : decode cL_law 272 = .ok (.invokestatic 152, 3) := by decide +kernel
theorem dL_law_275 : decode cL_law 275 = .ok (.istore 6, 2) := by decide +kernel
theorem dL_law_277 : decode cL_law 277 = .ok (.aload_n 2, 1) := by decide +kernel
theorem dL_law_278 : decode cL_law 278 = .ok (.aload_n 0, 1) := by decide +kernel
theorem dL_law_279 : decode cL_law 279 = .ok (.iload 5, 2) := by decide +kernel
theorem dL_law_281 : decode cL_law 281 = .ok (.iconst 1, 1) := by decide +kernel
theorem dL_law_282 : decode cL_law 282 = .ok (.iadd, 1) := by decide +kernel
theorem dL_law_283 : decode cL_law 283 = .ok (.iaload, 1) := by decide +kernel
theorem dL_law_284 : decode cL_law 284 = .ok (.invokevirtual 157, 3) := by decide +kernel
theorem dL_law_287 : decode cL_law 287 = .ok (.istore 7, 2) := by decide +kernel
theorem dL_law_289 : decode cL_law 289 = .ok (.aload_n 2, 1) := by decide +kernel
theorem dL_law_290 : decode cL_law 290 = .ok (.invokevirtual 158, 3) := by decide +kernel
theorem dL_law_293 : decode cL_law 293 = .ok (.iload 6, 2) := by decide +kernel
theorem dL_law_295 : decode cL_law 295 = .ok (.if_icmp .eq 5, 3) := by decide +kernel
theorem dL_law_298 : decode cL_law 298 = .ok (.iconst 0, 1) := by decide +kernel
theorem dL_law_299 : decode cL_law 299 = .ok (.ireturn, 1) := by decide +kernel
theorem dL_law_300 : decode cL_law 300 = .ok (.iload 6, 2) := by decide +kernel
theorem dL_law_302 : decode cL_law 302 = .ok (.ifCond .ne 15, 3) := by decide +kernel
theorem dL_law_305 : decode cL_law 305 = .ok (.aload_n 3, 1) := by decide +kernel
theorem dL_law_306 : decode cL_law 306 = .ok (.iconst 0, 1) := by decide +kernel
theorem dL_law_307 : decode cL_law 307 = .ok (.laload, 1) := by decide +kernel
theorem dL_law_308 : decode cL_law 308 = .ok (.iload 7, 2) := by decide +kernel
theorem dL_law_310 : decode cL_law 310 = .ok (.i2l, 1) := by decide +kernel
theorem dL_law_311 : decode cL_law 311 = .ok (.lcmp, 1) := by decide +kernel
theorem dL_law_312 : decode cL_law 312 = .ok (.ifCond .eq 5, 3) := by decide +kernel
theorem dL_law_315 : decode cL_law 315 = .ok (.iconst 0, 1) := by decide +kernel
theorem dL_law_316 : decode cL_law 316 = .ok (.ireturn, 1) := by decide +kernel
theorem dL_law_317 : decode cL_law 317 = .ok (.goto 2471, 3) := by decide +kernel
theorem dL_law_320 : decode cL_law 320 = .ok (.aload_n 1, 1) := by decide +kernel
theorem dL_law_321 : decode cL_law 321 = .ok (.invokevirtual 161, 3) := by decide +kernel
theorem dL_law_324 : decode cL_law 324 = .ok (.aload_n 2, 1) := by decide +kernel
theorem dL_law_325 : decode cL_law 325 = .ok (.invokevirtual 164, 3) := by decide +kernel
theorem dL_law_328 : decode cL_law 328 = .ok (.if_icmp .eq 2460, 3) := by decide +kernel
theorem dL_law_331 : decode cL_law 331 = .ok (.iconst 0, 1) := by decide +kernel
theorem dL_law_332 : decode cL_law 332 = .ok (.ireturn, 1) := by decide +kernel
theorem dL_law_333 : decode cL_law 333 = .ok (.aload_n 1, 1) := by decide +kernel
theorem dL_law_334 : decode cL_law 334 = .ok (.aload_n 0, 1) := by decide +kernel
theorem dL_law_335 : decode cL_law 335 = .ok (.iload 5, 2) := by decide +kernel
theorem dL_law_337 : decode cL_law 337 = .ok (.iconst 1, 1) := by decide +kernel
theorem dL_law_338 : decode cL_law 338 = .ok (.iadd, 1) := by decide +kernel
theorem dL_law_339 : decode cL_law 339 = .ok (.iaload, 1) := by decide +kernel
theorem dL_law_340 : decode cL_law 340 = .ok (.aload_n 0, 1) := by decide +kernel
theorem dL_law_341 : decode cL_law 341 = .ok (.iload 5, 2) := by decide +kernel
theorem dL_law_343 : decode cL_law 343 = .ok (.iconst 2, 1) := by decide +kernel
theorem dL_law_344 : decode cL_law 344 = .ok (.iadd, 1) := by decide +kernel
theorem dL_law_345 : decode cL_law 345 = .ok (.iaload, 1) := by decide +kernel
theorem dL_law_346 : decode cL_law 346 = .ok (.aload_n 3, 1) := by decide +kernel
theorem dL_law_347 : decode cL_law 347 = .ok (.invokestatic 165, 3) := by decide +kernel
theorem dL_law_350 : decode cL_law 350 = .ok (.istore 6, 2) := by decide +kernel
theorem dL_law_352 : decode cL_law 352 = .ok (.aload_n 2, 1) := by decide +kernel
theorem dL_law_353 : decode cL_law 353 = .ok (.aload_n 0, 1) := by decide +kernel
theorem dL_law_354 : decode cL_law 354 = .ok (.iload 5, 2) := by decide +kernel
theorem dL_law_356 : decode cL_law 356 = .ok (.iconst 1, 1) := by decide +kernel
theorem dL_law_357 : decode cL_law 357 = .ok (.iadd, 1) := by decide +kernel
theorem dL_law_358 : decode cL_law 358 = .ok (.iaload, 1) := by decide +kernel
theorem dL_law_359 : decode cL_law 359 = .ok (.aload_n 0, 1) := by decide +kernel
theorem dL_law_360 : decode cL_law 360 = .ok (.iload 5, 2) := by decide +kernel
theorem dL_law_362 : decode cL_law 362 = .ok (.iconst 2, 1) := by decide +kernel
theorem dL_law_363 : decode cL_law 363 = .ok (.iadd, 1) := by decide +kernel
theorem dL_law_364 : decode cL_law 364 = .ok (.iaload, 1) := by decide +kernel
theorem dL_law_365 : decode cL_law 365 = .ok (.invokevirtual 168, 3) := by decide +kernel
theorem dL_law_368 : decode cL_law 368 = .ok (.istore 7, 2) := by decide +kernel
theorem dL_law_370 : decode cL_law 370 = .ok (.aload_n 2, 1) := by decide +kernel
theorem dL_law_371 : decode cL_law 371 = .ok (.invokevirtual 158, 3) := by decide +kernel
theorem dL_law_374 : decode cL_law 374 = .ok (.iload 6, 2) := by decide +kernel
theorem dL_law_376 : decode cL_law 376 = .ok (.if_icmp .eq 5, 3) := by decide +kernel
theorem dL_law_379 : decode cL_law 379 = .ok (.iconst 0, 1) := by decide +kernel
theorem dL_law_380 : decode cL_law 380 = .ok (.ireturn, 1) := by decide +kernel
theorem dL_law_381 : decode cL_law 381 = .ok (.iload 6, 2) := by decide +kernel
theorem dL_law_383 : decode cL_law 383 = .ok (.ifCond .ne 15, 3) := by decide +kernel
theorem dL_law_386 : decode cL_law 386 = .ok (.aload_n 3, 1) := by decide +kernel
theorem dL_law_387 : decode cL_law 387 = .ok (.iconst 0, 1) := by decide +kernel
theorem dL_law_388 : decode cL_law 388 = .ok (.laload, 1) := by decide +kernel
theorem dL_law_389 : decode cL_law 389 = .ok (.iload 7, 2) := by decide +kernel
theorem dL_law_391 : decode cL_law 391 = .ok (.i2l, 1) := by decide +kernel
theorem dL_law_392 : decode cL_law 392 = .ok (.lcmp, 1) := by decide +kernel
theorem dL_law_393 : decode cL_law 393 = .ok (.ifCond .eq 5, 3) := by decide +kernel
theorem dL_law_396 : decode cL_law 396 = .ok (.iconst 0, 1) := by decide +kernel
theorem dL_law_397 : decode cL_law 397 = .ok (.ireturn, 1) := by decide +kernel
theorem dL_law_398 : decode cL_law 398 = .ok (.goto 2390, 3) := by decide +kernel
theorem dL_law_401 : decode cL_law 401 = .ok (.aload_n 1, 1) := by decide +kernel
theorem dL_law_402 : decode cL_law 402 = .ok (.aload_n 0, 1) := by decide +kernel
theorem dL_law_403 : decode cL_law 403 = .ok (.iload 5, 2) := by decide +kernel
theorem dL_law_405 : decode cL_law 405 = .ok (.iconst 1, 1) := by decide +kernel
theorem dL_law_406 : decode cL_law 406 = .ok (.iadd, 1) := by decide +kernel
theorem dL_law_407 : decode cL_law 407 = .ok (.iaload, 1) := by decide +kernel
theorem dL_law_408 : decode cL_law 408 = .ok (.aload_n 3, 1) := by decide +kernel
theorem dL_law_409 : decode cL_law 409 = .ok (.invokestatic 169, 3) := by decide +kernel
theorem dL_law_412 : decode cL_law 412 = .ok (.istore 6, 2) := by decide +kernel
theorem dL_law_414 : decode cL_law 414 = .ok (.aload_n 2, 1) := by decide +kernel
theorem dL_law_415 : decode cL_law 415 = .ok (.aload_n 0, 1) := by decide +kernel
theorem dL_law_416 : decode cL_law 416 = .ok (.iload 5, 2) := by decide +kernel
theorem dL_law_418 : decode cL_law 418 = .ok (.iconst 1, 1) := by decide +kernel
theorem dL_law_419 : decode cL_law 419 = .ok (.iadd, 1) := by decide +kernel
theorem dL_law_420 : decode cL_law 420 = .ok (.iaload, 1) := by decide +kernel
theorem dL_law_421 : decode cL_law 421 = .ok (.invokevirtual 171, 3) := by decide +kernel
theorem dL_law_424 : decode cL_law 424 = .ok (.istore 7, 2) := by decide +kernel
theorem dL_law_426 : decode cL_law 426 = .ok (.aload_n 2, 1) := by decide +kernel
theorem dL_law_427 : decode cL_law 427 = .ok (.invokevirtual 158, 3) := by decide +kernel
theorem dL_law_430 : decode cL_law 430 = .ok (.iload 6, 2) := by decide +kernel
theorem dL_law_432 : decode cL_law 432 = .ok (.if_icmp .eq 5, 3) := by decide +kernel
theorem dL_law_435 : decode cL_law 435 = .ok (.iconst 0, 1) := by decide +kernel
theorem dL_law_436 : decode cL_law 436 = .ok (.ireturn, 1) := by decide +kernel
theorem dL_law_437 : decode cL_law 437 = .ok (.iload 6, 2) := by decide +kernel
theorem dL_law_439 : decode cL_law 439 = .ok (.ifCond .ne 15, 3) := by decide +kernel
theorem dL_law_442 : decode cL_law 442 = .ok (.aload_n 3, 1) := by decide +kernel
theorem dL_law_443 : decode cL_law 443 = .ok (.iconst 0, 1) := by decide +kernel
theorem dL_law_444 : decode cL_law 444 = .ok (.laload, 1) := by decide +kernel
theorem dL_law_445 : decode cL_law 445 = .ok (.iload 7, 2) := by decide +kernel
theorem dL_law_447 : decode cL_law 447 = .ok (.i2l, 1) := by decide +kernel
theorem dL_law_448 : decode cL_law 448 = .ok (.lcmp, 1) := by decide +kernel
theorem dL_law_449 : decode cL_law 449 = .ok (.ifCond .eq 5, 3) := by decide +kernel
theorem dL_law_452 : decode cL_law 452 = .ok (.iconst 0, 1) := by decide +kernel
theorem dL_law_453 : decode cL_law 453 = .ok (.ireturn, 1) := by decide +kernel
theorem dL_law_454 : decode cL_law 454 = .ok (.goto 2334, 3) := by decide +kernel
theorem dL_law_457 : decode cL_law 457 = .ok (.aload_n 1, 1) := by decide +kernel
theorem dL_law_458 : decode cL_law 458 = .ok (.invokevirtual 172, 3) := by decide +kernel
theorem dL_law_461 : decode cL_law 461 = .ok (.aload_n 2, 1) := by decide +kernel
theorem dL_law_462 : decode cL_law 462 = .ok (.invokevirtual 175, 3) := by decide +kernel
theorem dL_law_465 : decode cL_law 465 = .ok (.if_icmp .eq 2323, 3) := by decide +kernel
theorem dL_law_468 : decode cL_law 468 = .ok (.iconst 0, 1) := by decide +kernel
theorem dL_law_469 : decode cL_law 469 = .ok (.ireturn, 1) := by decide +kernel
theorem dL_law_470 : decode cL_law 470 = .ok (.aload_n 1, 1) := by decide +kernel
theorem dL_law_471 : decode cL_law 471 = .ok (.aload_n 0, 1) := by decide +kernel
theorem dL_law_472 : decode cL_law 472 = .ok (.iload 5, 2) := by decide +kernel
theorem dL_law_474 : decode cL_law 474 = .ok (.iconst 1, 1) := by decide +kernel
theorem dL_law_475 : decode cL_law 475 = .ok (.iadd, 1) := by decide +kernel
theorem dL_law_476 : decode cL_law 476 = .ok (.iaload, 1) := by decide +kernel
theorem dL_law_477 : decode cL_law 477 = .ok (.aload_n 3, 1) := by decide +kernel
theorem dL_law_478 : decode cL_law 478 = .ok (.invokestatic 176, 3) := by decide +kernel
theorem dL_law_481 : decode cL_law 481 = .ok (.istore 6, 2) := by decide +kernel
theorem dL_law_483 : decode cL_law 483 = .ok (.aload_n 2, 1) := by decide +kernel
theorem dL_law_484 : decode cL_law 484 = .ok (.aload_n 0, 1) := by decide +kernel
theorem dL_law_485 : decode cL_law 485 = .ok (.iload 5, 2) := by decide +kernel
theorem dL_law_487 : decode cL_law 487 = .ok (.iconst 1, 1) := by decide +kernel
theorem dL_law_488 : decode cL_law 488 = .ok (.iadd, 1) := by decide +kernel
theorem dL_law_489 : decode cL_law 489 = .ok (.iaload, 1) := by decide +kernel
theorem dL_law_490 : decode cL_law 490 = .ok (.invokevirtual 178, 3) := by decide +kernel
theorem dL_law_493 : decode cL_law 493 = .ok (.istore 7, 2) := by decide +kernel
theorem dL_law_495 : decode cL_law 495 = .ok (.aload_n 2, 1) := by decide +kernel
theorem dL_law_496 : decode cL_law 496 = .ok (.invokevirtual 158, 3) := by decide +kernel
theorem dL_law_499 : decode cL_law 499 = .ok (.iload 6, 2) := by decide +kernel
theorem dL_law_501 : decode cL_law 501 = .ok (.if_icmp .eq 5, 3) := by decide +kernel
theorem dL_law_504 : decode cL_law 504 = .ok (.iconst 0, 1) := by decide +kernel
theorem dL_law_505 : decode cL_law 505 = .ok (.ireturn, 1) := by decide +kernel
theorem dL_law_506 : decode cL_law 506 = .ok (.iload 6, 2) := by decide +kernel
theorem dL_law_508 : decode cL_law 508 = .ok (.ifCond .ne 15, 3) := by decide +kernel
theorem dL_law_511 : decode cL_law 511 = .ok (.aload_n 3, 1) := by decide +kernel
theorem dL_law_512 : decode cL_law 512 = .ok (.iconst 0, 1) := by decide +kernel
theorem dL_law_513 : decode cL_law 513 = .ok (.laload, 1) := by decide +kernel
theorem dL_law_514 : decode cL_law 514 = .ok (.iload 7, 2) := by decide +kernel
theorem dL_law_516 : decode cL_law 516 = .ok (.i2l, 1) := by decide +kernel
theorem dL_law_517 : decode cL_law 517 = .ok (.lcmp, 1) := by decide +kernel
theorem dL_law_518 : decode cL_law 518 = .ok (.ifCond .eq 5, 3) := by decide +kernel
theorem dL_law_521 : decode cL_law 521 = .ok (.iconst 0, 1) := by decide +kernel
theorem dL_law_522 : decode cL_law 522 = .ok (.ireturn, 1) := by decide +kernel
theorem dL_law_523 : decode cL_law 523 = .ok (.goto 2265, 3) := by decide +kernel
theorem dL_law_526 : decode cL_law 526 = .ok (.aload_n 1, 1) := by decide +kernel
theorem dL_law_527 : decode cL_law 527 = .ok (.aload_n 0, 1) := by decide +kernel
theorem dL_law_528 : decode cL_law 528 = .ok (.iload 5, 2) := by decide +kernel
theorem dL_law_530 : decode cL_law 530 = .ok (.iconst 1, 1) := by decide +kernel
theorem dL_law_531 : decode cL_law 531 = .ok (.iadd, 1) := by decide +kernel
theorem dL_law_532 : decode cL_law 532 = .ok (.iaload, 1) := by decide +kernel
theorem dL_law_533 : decode cL_law 533 = .ok (.aload_n 0, 1) := by decide +kernel
theorem dL_law_534 : decode cL_law 534 = .ok (.iload 5, 2) := by decide +kernel
theorem dL_law_536 : decode cL_law 536 = .ok (.iconst 2, 1) := by decide +kernel
theorem dL_law_537 : decode cL_law 537 = .ok (.iadd, 1) := by decide +kernel
theorem dL_law_538 : decode cL_law 538 = .ok (.iaload, 1) := by decide +kernel
theorem dL_law_539 : decode cL_law 539 = .ok (.aload_n 3, 1) := by decide +kernel
theorem dL_law_540 : decode cL_law 540 = .ok (.invokestatic 179, 3) := by decide +kernel
theorem dL_law_543 : decode cL_law 543 = .ok (.istore 6, 2) := by decide +kernel
theorem dL_law_545 : decode cL_law 545 = .ok (.aload_n 2, 1) := by decide +kernel
theorem dL_law_546 : decode cL_law 546 = .ok (.aload_n 0, 1) := by decide +kernel
theorem dL_law_547 : decode cL_law 547 = .ok (.iload 5, 2) := by decide +kernel
theorem dL_law_549 : decode cL_law 549 = .ok (.iconst 1, 1) := by decide +kernel
theorem dL_law_550 : decode cL_law 550 = .ok (.iadd, 1) := by decide +kernel
theorem dL_law_551 : decode cL_law 551 = .ok (.iaload, 1) := by decide +kernel
theorem dL_law_552 : decode cL_law 552 = .ok (.aload_n 0, 1) := by decide +kernel
theorem dL_law_553 : decode cL_law 553 = .ok (.iload 5, 2) := by decide +kernel
theorem dL_law_555 : decode cL_law 555 = .ok (.iconst 2, 1) := by decide +kernel
theorem dL_law_556 : decode cL_law 556 = .ok (.iadd, 1) := by decide +kernel
theorem dL_law_557 : decode cL_law 557 = .ok (.iaload, 1) := by decide +kernel
theorem dL_law_558 : decode cL_law 558 = .ok (.invokevirtual 181, 3) := by decide +kernel
theorem dL_law_561 : decode cL_law 561 = .ok (.istore 7, 2) := by decide +kernel
theorem dL_law_563 : decode cL_law 563 = .ok (.aload_n 2, 1) := by decide +kernel
theorem dL_law_564 : decode cL_law 564 = .ok (.invokevirtual 158, 3) := by decide +kernel
theorem dL_law_567 : decode cL_law 567 = .ok (.iload 6, 2) := by decide +kernel
theorem dL_law_569 : decode cL_law 569 = .ok (.if_icmp .eq 5, 3) := by decide +kernel
theorem dL_law_572 : decode cL_law 572 = .ok (.iconst 0, 1) := by decide +kernel
theorem dL_law_573 : decode cL_law 573 = .ok (.ireturn, 1) := by decide +kernel
theorem dL_law_574 : decode cL_law 574 = .ok (.iload 6, 2) := by decide +kernel
theorem dL_law_576 : decode cL_law 576 = .ok (.ifCond .ne 15, 3) := by decide +kernel
theorem dL_law_579 : decode cL_law 579 = .ok (.aload_n 3, 1) := by decide +kernel
theorem dL_law_580 : decode cL_law 580 = .ok (.iconst 0, 1) := by decide +kernel
theorem dL_law_581 : decode cL_law 581 = .ok (.laload, 1) := by decide +kernel
theorem dL_law_582 : decode cL_law 582 = .ok (.iload 7, 2) := by decide +kernel
theorem dL_law_584 : decode cL_law 584 = .ok (.i2l, 1) := by decide +kernel
theorem dL_law_585 : decode cL_law 585 = .ok (.lcmp, 1) := by decide +kernel
theorem dL_law_586 : decode cL_law 586 = .ok (.ifCond .eq 5, 3) := by decide +kernel
theorem dL_law_589 : decode cL_law 589 = .ok (.iconst 0, 1) := by decide +kernel
theorem dL_law_590 : decode cL_law 590 = .ok (.ireturn, 1) := by decide +kernel
theorem dL_law_591 : decode cL_law 591 = .ok (.goto 2197, 3) := by decide +kernel
theorem dL_law_594 : decode cL_law 594 = .ok (.aload_n 1, 1) := by decide +kernel
theorem dL_law_595 : decode cL_law 595 = .ok (.aload_n 0, 1) := by decide +kernel
theorem dL_law_596 : decode cL_law 596 = .ok (.iload 5, 2) := by decide +kernel
theorem dL_law_598 : decode cL_law 598 = .ok (.iconst 1, 1) := by decide +kernel
theorem dL_law_599 : decode cL_law 599 = .ok (.iadd, 1) := by decide +kernel
theorem dL_law_600 : decode cL_law 600 = .ok (.iaload, 1) := by decide +kernel
theorem dL_law_601 : decode cL_law 601 = .ok (.aload_n 3, 1) := by decide +kernel
theorem dL_law_602 : decode cL_law 602 = .ok (.invokestatic 182, 3) := by decide +kernel
theorem dL_law_605 : decode cL_law 605 = .ok (.istore 6, 2) := by decide +kernel
theorem dL_law_607 : decode cL_law 607 = .ok (.aload_n 2, 1) := by decide +kernel
theorem dL_law_608 : decode cL_law 608 = .ok (.aload_n 0, 1) := by decide +kernel
theorem dL_law_609 : decode cL_law 609 = .ok (.iload 5, 2) := by decide +kernel
theorem dL_law_611 : decode cL_law 611 = .ok (.iconst 1, 1) := by decide +kernel
theorem dL_law_612 : decode cL_law 612 = .ok (.iadd, 1) := by decide +kernel
theorem dL_law_613 : decode cL_law 613 = .ok (.iaload, 1) := by decide +kernel
theorem dL_law_614 : decode cL_law 614 = .ok (.invokevirtual 184, 3) := by decide +kernel
theorem dL_law_617 : decode cL_law 617 = .ok (.istore 7, 2) := by decide +kernel
theorem dL_law_619 : decode cL_law 619 = .ok (.aload_n 2, 1) := by decide +kernel
theorem dL_law_620 : decode cL_law 620 = .ok (.invokevirtual 158, 3) := by decide +kernel
theorem dL_law_623 : decode cL_law 623 = .ok (.iload 6, 2) := by decide +kernel
theorem dL_law_625 : decode cL_law 625 = .ok (.if_icmp .eq 5, 3) := by decide +kernel
theorem dL_law_628 : decode cL_law 628 = .ok (.iconst 0, 1) := by decide +kernel
theorem dL_law_629 : decode cL_law 629 = .ok (.ireturn, 1) := by decide +kernel
theorem dL_law_630 : decode cL_law 630 = .ok (.iload 6, 2) := by decide +kernel
theorem dL_law_632 : decode cL_law 632 = .ok (.ifCond .ne 15, 3) := by decide +kernel
theorem dL_law_635 : decode cL_law 635 = .ok (.aload_n 3, 1) := by decide +kernel
theorem dL_law_636 : decode cL_law 636 = .ok (.iconst 0, 1) := by decide +kernel
theorem dL_law_637 : decode cL_law 637 = .ok (.laload, 1) := by decide +kernel
theorem dL_law_638 : decode cL_law 638 = .ok (.iload 7, 2) := by decide +kernel
theorem dL_law_640 : decode cL_law 640 = .ok (.i2l, 1) := by decide +kernel
theorem dL_law_641 : decode cL_law 641 = .ok (.lcmp, 1) := by decide +kernel
theorem dL_law_642 : decode cL_law 642 = .ok (.ifCond .eq 5, 3) := by decide +kernel
theorem dL_law_645 : decode cL_law 645 = .ok (.iconst 0, 1) := by decide +kernel
theorem dL_law_646 : decode cL_law 646 = .ok (.ireturn, 1) := by decide +kernel
theorem dL_law_647 : decode cL_law 647 = .ok (.goto 2141, 3) := by decide +kernel
theorem dL_law_650 : decode cL_law 650 = .ok (.aload_n 1, 1) := by decide +kernel
theorem dL_law_651 : decode cL_law 651 = .ok (.aload_n 0, 1) := by decide +kernel
theorem dL_law_652 : decode cL_law 652 = .ok (.iload 5, 2) := by decide +kernel
theorem dL_law_654 : decode cL_law 654 = .ok (.iconst 1, 1) := by decide +kernel
theorem dL_law_655 : decode cL_law 655 = .ok (.iadd, 1) := by decide +kernel
theorem dL_law_656 : decode cL_law 656 = .ok (.iaload, 1) := by decide +kernel
theorem dL_law_657 : decode cL_law 657 = .ok (.aload_n 0, 1) := by decide +kernel
theorem dL_law_658 : decode cL_law 658 = .ok (.iload 5, 2) := by decide +kernel
theorem dL_law_660 : decode cL_law 660 = .ok (.iconst 2, 1) := by decide +kernel
theorem dL_law_661 : decode cL_law 661 = .ok (.iadd, 1) := by decide +kernel
theorem dL_law_662 : decode cL_law 662 = .ok (.iaload, 1) := by decide +kernel
theorem dL_law_663 : decode cL_law 663 = .ok (.aload_n 3, 1) := by decide +kernel
theorem dL_law_664 : decode cL_law 664 = .ok (.invokestatic 185, 3) := by decide +kernel
theorem dL_law_667 : decode cL_law 667 = .ok (.istore 6, 2) := by decide +kernel
theorem dL_law_669 : decode cL_law 669 = .ok (.aload_n 2, 1) := by decide +kernel
theorem dL_law_670 : decode cL_law 670 = .ok (.aload_n 0, 1) := by decide +kernel
theorem dL_law_671 : decode cL_law 671 = .ok (.iload 5, 2) := by decide +kernel
theorem dL_law_673 : decode cL_law 673 = .ok (.iconst 1, 1) := by decide +kernel
theorem dL_law_674 : decode cL_law 674 = .ok (.iadd, 1) := by decide +kernel
theorem dL_law_675 : decode cL_law 675 = .ok (.iaload, 1) := by decide +kernel
theorem dL_law_676 : decode cL_law 676 = .ok (.aload_n 0, 1) := by decide +kernel
theorem dL_law_677 : decode cL_law 677 = .ok (.iload 5, 2) := by decide +kernel
theorem dL_law_679 : decode cL_law 679 = .ok (.iconst 2, 1) := by decide +kernel
theorem dL_law_680 : decode cL_law 680 = .ok (.iadd, 1) := by decide +kernel
theorem dL_law_681 : decode cL_law 681 = .ok (.iaload, 1) := by decide +kernel
theorem dL_law_682 : decode cL_law 682 = .ok (.invokevirtual 187, 3) := by decide +kernel
theorem dL_law_685 : decode cL_law 685 = .ok (.istore 7, 2) := by decide +kernel
theorem dL_law_687 : decode cL_law 687 = .ok (.aload_n 2, 1) := by decide +kernel
theorem dL_law_688 : decode cL_law 688 = .ok (.invokevirtual 158, 3) := by decide +kernel
theorem dL_law_691 : decode cL_law 691 = .ok (.iload 6, 2) := by decide +kernel
theorem dL_law_693 : decode cL_law 693 = .ok (.if_icmp .eq 5, 3) := by decide +kernel
theorem dL_law_696 : decode cL_law 696 = .ok (.iconst 0, 1) := by decide +kernel
theorem dL_law_697 : decode cL_law 697 = .ok (.ireturn, 1) := by decide +kernel
theorem dL_law_698 : decode cL_law 698 = .ok (.iload 6, 2) := by decide +kernel
theorem dL_law_700 : decode cL_law 700 = .ok (.ifCond .ne 15, 3) := by decide +kernel
theorem dL_law_703 : decode cL_law 703 = .ok (.aload_n 3, 1) := by decide +kernel
theorem dL_law_704 : decode cL_law 704 = .ok (.iconst 0, 1) := by decide +kernel
theorem dL_law_705 : decode cL_law 705 = .ok (.laload, 1) := by decide +kernel
theorem dL_law_706 : decode cL_law 706 = .ok (.iload 7, 2) := by decide +kernel
theorem dL_law_708 : decode cL_law 708 = .ok (.i2l, 1) := by decide +kernel
theorem dL_law_709 : decode cL_law 709 = .ok (.lcmp, 1) := by decide +kernel
theorem dL_law_710 : decode cL_law 710 = .ok (.ifCond .eq 5, 3) := by decide +kernel
theorem dL_law_713 : decode cL_law 713 = .ok (.iconst 0, 1) := by decide +kernel
theorem dL_law_714 : decode cL_law 714 = .ok (.ireturn, 1) := by decide +kernel
theorem dL_law_715 : decode cL_law 715 = .ok (.goto 2073, 3) := by decide +kernel
theorem dL_law_718 : decode cL_law 718 = .ok (.aload_n 1, 1) := by decide +kernel
theorem dL_law_719 : decode cL_law 719 = .ok (.aload_n 0, 1) := by decide +kernel
theorem dL_law_720 : decode cL_law 720 = .ok (.iload 5, 2) := by decide +kernel
theorem dL_law_722 : decode cL_law 722 = .ok (.iconst 1, 1) := by decide +kernel
theorem dL_law_723 : decode cL_law 723 = .ok (.iadd, 1) := by decide +kernel
theorem dL_law_724 : decode cL_law 724 = .ok (.iaload, 1) := by decide +kernel
theorem dL_law_725 : decode cL_law 725 = .ok (.aload_n 3, 1) := by decide +kernel
theorem dL_law_726 : decode cL_law 726 = .ok (.invokestatic 188, 3) := by decide +kernel
theorem dL_law_729 : decode cL_law 729 = .ok (.istore 6, 2) := by decide +kernel
theorem dL_law_731 : decode cL_law 731 = .ok (.aload_n 2, 1) := by decide +kernel
theorem dL_law_732 : decode cL_law 732 = .ok (.aload_n 0, 1) := by decide +kernel
theorem dL_law_733 : decode cL_law 733 = .ok (.iload 5, 2) := by decide +kernel
theorem dL_law_735 : decode cL_law 735 = .ok (.iconst 1, 1) := by decide +kernel
theorem dL_law_736 : decode cL_law 736 = .ok (.iadd, 1) := by decide +kernel
theorem dL_law_737 : decode cL_law 737 = .ok (.iaload, 1) := by decide +kernel
theorem dL_law_738 : decode cL_law 738 = .ok (.invokevirtual 190, 3) := by decide +kernel
theorem dL_law_741 : decode cL_law 741 = .ok (.istore 7, 2) := by decide +kernel
theorem dL_law_743 : decode cL_law 743 = .ok (.aload_n 2, 1) := by decide +kernel
theorem dL_law_744 : decode cL_law 744 = .ok (.invokevirtual 158, 3) := by decide +kernel
theorem dL_law_747 : decode cL_law 747 = .ok (.iload 6, 2) := by decide +kernel
theorem dL_law_749 : decode cL_law 749 = .ok (.if_icmp .eq 5, 3) := by decide +kernel
theorem dL_law_752 : decode cL_law 752 = .ok (.iconst 0, 1) := by decide +kernel
theorem dL_law_753 : decode cL_law 753 = .ok (.ireturn, 1) := by decide +kernel
theorem dL_law_754 : decode cL_law 754 = .ok (.iload 6, 2) := by decide +kernel
theorem dL_law_756 : decode cL_law 756 = .ok (.ifCond .ne 15, 3) := by decide +kernel
theorem dL_law_759 : decode cL_law 759 = .ok (.aload_n 3, 1) := by decide +kernel
theorem dL_law_760 : decode cL_law 760 = .ok (.iconst 0, 1) := by decide +kernel
theorem dL_law_761 : decode cL_law 761 = .ok (.laload, 1) := by decide +kernel
theorem dL_law_762 : decode cL_law 762 = .ok (.iload 7, 2) := by decide +kernel
theorem dL_law_764 : decode cL_law 764 = .ok (.i2l, 1) := by decide +kernel
theorem dL_law_765 : decode cL_law 765 = .ok (.lcmp, 1) := by decide +kernel
theorem dL_law_766 : decode cL_law 766 = .ok (.ifCond .eq 5, 3) := by decide +kernel
theorem dL_law_769 : decode cL_law 769 = .ok (.iconst 0, 1) := by decide +kernel
theorem dL_law_770 : decode cL_law 770 = .ok (.ireturn, 1) := by decide +kernel
theorem dL_law_771 : decode cL_law 771 = .ok (.goto 2017, 3) := by decide +kernel
theorem dL_law_774 : decode cL_law 774 = .ok (.aload_n 1, 1) := by decide +kernel
theorem dL_law_775 : decode cL_law 775 = .ok (.aload_n 0, 1) := by decide +kernel
theorem dL_law_776 : decode cL_law 776 = .ok (.iload 5, 2) := by decide +kernel
theorem dL_law_778 : decode cL_law 778 = .ok (.iconst 1, 1) := by decide +kernel
theorem dL_law_779 : decode cL_law 779 = .ok (.iadd, 1) := by decide +kernel
theorem dL_law_780 : decode cL_law 780 = .ok (.iaload, 1) := by decide +kernel
theorem dL_law_781 : decode cL_law 781 = .ok (.aload_n 0, 1) := by decide +kernel
theorem dL_law_782 : decode cL_law 782 = .ok (.iload 5, 2) := by decide +kernel
theorem dL_law_784 : decode cL_law 784 = .ok (.iconst 2, 1) := by decide +kernel
theorem dL_law_785 : decode cL_law 785 = .ok (.iadd, 1) := by decide +kernel
theorem dL_law_786 : decode cL_law 786 = .ok (.iaload, 1) := by decide +kernel
theorem dL_law_787 : decode cL_law 787 = .ok (.aload_n 3, 1) := by decide +kernel
theorem dL_law_788 : decode cL_law 788 = .ok (.invokestatic 191, 3) := by decide +kernel
theorem dL_law_791 : decode cL_law 791 = .ok (.istore 6, 2) := by decide +kernel
theorem dL_law_793 : decode cL_law 793 = .ok (.aload_n 2, 1) := by decide +kernel
theorem dL_law_794 : decode cL_law 794 = .ok (.aload_n 0, 1) := by decide +kernel
theorem dL_law_795 : decode cL_law 795 = .ok (.iload 5, 2) := by decide +kernel
theorem dL_law_797 : decode cL_law 797 = .ok (.iconst 1, 1) := by decide +kernel
theorem dL_law_798 : decode cL_law 798 = .ok (.iadd, 1) := by decide +kernel
theorem dL_law_799 : decode cL_law 799 = .ok (.iaload, 1) := by decide +kernel
theorem dL_law_800 : decode cL_law 800 = .ok (.aload_n 0, 1) := by decide +kernel
theorem dL_law_801 : decode cL_law 801 = .ok (.iload 5, 2) := by decide +kernel
theorem dL_law_803 : decode cL_law 803 = .ok (.iconst 2, 1) := by decide +kernel
theorem dL_law_804 : decode cL_law 804 = .ok (.iadd, 1) := by decide +kernel
theorem dL_law_805 : decode cL_law 805 = .ok (.iaload, 1) := by decide +kernel
theorem dL_law_806 : decode cL_law 806 = .ok (.invokevirtual 193, 3) := by decide +kernel
theorem dL_law_809 : decode cL_law 809 = .ok (.istore 7, 2) := by decide +kernel
theorem dL_law_811 : decode cL_law 811 = .ok (.aload_n 2, 1) := by decide +kernel
theorem dL_law_812 : decode cL_law 812 = .ok (.invokevirtual 158, 3) := by decide +kernel
theorem dL_law_815 : decode cL_law 815 = .ok (.iload 6, 2) := by decide +kernel
theorem dL_law_817 : decode cL_law 817 = .ok (.if_icmp .eq 5, 3) := by decide +kernel
theorem dL_law_820 : decode cL_law 820 = .ok (.iconst 0, 1) := by decide +kernel
theorem dL_law_821 : decode cL_law 821 = .ok (.ireturn, 1) := by decide +kernel
theorem dL_law_822 : decode cL_law 822 = .ok (.iload 6, 2) := by decide +kernel
theorem dL_law_824 : decode cL_law 824 = .ok (.ifCond .ne 15, 3) := by decide +kernel
theorem dL_law_827 : decode cL_law 827 = .ok (.aload_n 3, 1) := by decide +kernel
theorem dL_law_828 : decode cL_law 828 = .ok (.iconst 0, 1) := by decide +kernel
theorem dL_law_829 : decode cL_law 829 = .ok (.laload, 1) := by decide +kernel
theorem dL_law_830 : decode cL_law 830 = .ok (.iload 7, 2) := by decide +kernel
theorem dL_law_832 : decode cL_law 832 = .ok (.i2l, 1) := by decide +kernel
theorem dL_law_833 : decode cL_law 833 = .ok (.lcmp, 1) := by decide +kernel
theorem dL_law_834 : decode cL_law 834 = .ok (.ifCond .eq 5, 3) := by decide +kernel
theorem dL_law_837 : decode cL_law 837 = .ok (.iconst 0, 1) := by decide +kernel
theorem dL_law_838 : decode cL_law 838 = .ok (.ireturn, 1) := by decide +kernel
theorem dL_law_839 : decode cL_law 839 = .ok (.goto 1949, 3) := by decide +kernel
theorem dL_law_842 : decode cL_law 842 = .ok (.aload_n 1, 1) := by decide +kernel
theorem dL_law_843 : decode cL_law 843 = .ok (.aload_n 0, 1) := by decide +kernel
theorem dL_law_844 : decode cL_law 844 = .ok (.iload 5, 2) := by decide +kernel
theorem dL_law_846 : decode cL_law 846 = .ok (.iconst 1, 1) := by decide +kernel
theorem dL_law_847 : decode cL_law 847 = .ok (.iadd, 1) := by decide +kernel
theorem dL_law_848 : decode cL_law 848 = .ok (.iaload, 1) := by decide +kernel
theorem dL_law_849 : decode cL_law 849 = .ok (.aload_n 3, 1) := by decide +kernel
theorem dL_law_850 : decode cL_law 850 = .ok (.invokestatic 194, 3) := by decide +kernel
theorem dL_law_853 : decode cL_law 853 = .ok (.istore 6, 2) := by decide +kernel
theorem dL_law_855 : decode cL_law 855 = .ok (.aload_n 2, 1) := by decide +kernel
theorem dL_law_856 : decode cL_law 856 = .ok (.aload_n 0, 1) := by decide +kernel
theorem dL_law_857 : decode cL_law 857 = .ok (.iload 5, 2) := by decide +kernel
theorem dL_law_859 : decode cL_law 859 = .ok (.iconst 1, 1) := by decide +kernel
theorem dL_law_860 : decode cL_law 860 = .ok (.iadd, 1) := by decide +kernel
theorem dL_law_861 : decode cL_law 861 = .ok (.iaload, 1) := by decide +kernel
theorem dL_law_862 : decode cL_law 862 = .ok (.invokevirtual 196, 3) := by decide +kernel
theorem dL_law_865 : decode cL_law 865 = .ok (.istore 7, 2) := by decide +kernel
theorem dL_law_867 : decode cL_law 867 = .ok (.aload_n 2, 1) := by decide +kernel
theorem dL_law_868 : decode cL_law 868 = .ok (.invokevirtual 158, 3) := by decide +kernel
theorem dL_law_871 : decode cL_law 871 = .ok (.iload 6, 2) := by decide +kernel
theorem dL_law_873 : decode cL_law 873 = .ok (.if_icmp .eq 5, 3) := by decide +kernel
theorem dL_law_876 : decode cL_law 876 = .ok (.iconst 0, 1) := by decide +kernel
theorem dL_law_877 : decode cL_law 877 = .ok (.ireturn, 1) := by decide +kernel
theorem dL_law_878 : decode cL_law 878 = .ok (.iload 6, 2) := by decide +kernel
theorem dL_law_880 : decode cL_law 880 = .ok (.ifCond .ne 15, 3) := by decide +kernel
theorem dL_law_883 : decode cL_law 883 = .ok (.aload_n 3, 1) := by decide +kernel
theorem dL_law_884 : decode cL_law 884 = .ok (.iconst 0, 1) := by decide +kernel
theorem dL_law_885 : decode cL_law 885 = .ok (.laload, 1) := by decide +kernel
theorem dL_law_886 : decode cL_law 886 = .ok (.iload 7, 2) := by decide +kernel
theorem dL_law_888 : decode cL_law 888 = .ok (.i2l, 1) := by decide +kernel
theorem dL_law_889 : decode cL_law 889 = .ok (.lcmp, 1) := by decide +kernel
theorem dL_law_890 : decode cL_law 890 = .ok (.ifCond .eq 5, 3) := by decide +kernel
theorem dL_law_893 : decode cL_law 893 = .ok (.iconst 0, 1) := by decide +kernel
theorem dL_law_894 : decode cL_law 894 = .ok (.ireturn, 1) := by decide +kernel
theorem dL_law_895 : decode cL_law 895 = .ok (.goto 1893, 3) := by decide +kernel
theorem dL_law_898 : decode cL_law 898 = .ok (.aload_n 1, 1) := by decide +kernel
theorem dL_law_899 : decode cL_law 899 = .ok (.aload_n 0, 1) := by decide +kernel
theorem dL_law_900 : decode cL_law 900 = .ok (.iload 5, 2) := by decide +kernel
theorem dL_law_902 : decode cL_law 902 = .ok (.iconst 1, 1) := by decide +kernel
theorem dL_law_903 : decode cL_law 903 = .ok (.iadd, 1) := by decide +kernel
theorem dL_law_904 : decode cL_law 904 = .ok (.iaload, 1) := by decide +kernel
theorem dL_law_905 : decode cL_law 905 = .ok (.aload_n 0, 1) := by decide +kernel
theorem dL_law_906 : decode cL_law 906 = .ok (.iload 5, 2) := by decide +kernel
theorem dL_law_908 : decode cL_law 908 = .ok (.iconst 2, 1) := by decide +kernel
theorem dL_law_909 : decode cL_law 909 = .ok (.iadd, 1) := by decide +kernel
theorem dL_law_910 : decode cL_law 910 = .ok (.iaload, 1) := by decide +kernel
theorem dL_law_911 : decode cL_law 911 = .ok (.aload_n 0, 1) := by decide +kernel
theorem dL_law_912 : decode cL_law 912 = .ok (.iload 5, 2) := by decide +kernel
theorem dL_law_914 : decode cL_law 914 = .ok (.iconst 3, 1) := by decide +kernel
theorem dL_law_915 : decode cL_law 915 = .ok (.iadd, 1) := by decide +kernel
theorem dL_law_916 : decode cL_law 916 = .ok (.iaload, 1) := by decide +kernel
theorem dL_law_917 : decode cL_law 917 = .ok (.aload_n 3, 1) := by decide +kernel
theorem dL_law_918 : decode cL_law 918 = .ok (.invokestatic 197, 3) := by decide +kernel
theorem dL_law_921 : decode cL_law 921 = .ok (.istore 6, 2) := by decide +kernel
theorem dL_law_923 : decode cL_law 923 = .ok (.aload_n 2, 1) := by decide +kernel
theorem dL_law_924 : decode cL_law 924 = .ok (.aload_n 0, 1) := by decide +kernel
theorem dL_law_925 : decode cL_law 925 = .ok (.iload 5, 2) := by decide +kernel
theorem dL_law_927 : decode cL_law 927 = .ok (.iconst 1, 1) := by decide +kernel
theorem dL_law_928 : decode cL_law 928 = .ok (.iadd, 1) := by decide +kernel
theorem dL_law_929 : decode cL_law 929 = .ok (.iaload, 1) := by decide +kernel
theorem dL_law_930 : decode cL_law 930 = .ok (.aload_n 0, 1) := by decide +kernel
theorem dL_law_931 : decode cL_law 931 = .ok (.iload 5, 2) := by decide +kernel
theorem dL_law_933 : decode cL_law 933 = .ok (.iconst 2, 1) := by decide +kernel
theorem dL_law_934 : decode cL_law 934 = .ok (.iadd, 1) := by decide +kernel
theorem dL_law_935 : decode cL_law 935 = .ok (.iaload, 1) := by decide +kernel
theorem dL_law_936 : decode cL_law 936 = .ok (.aload_n 0, 1) := by decide +kernel
theorem dL_law_937 : decode cL_law 937 = .ok (.iload 5, 2) := by decide +kernel
theorem dL_law_939 : decode cL_law 939 = .ok (.iconst 3, 1) := by decide +kernel
theorem dL_law_940 : decode cL_law 940 = .ok (.iadd, 1) := by decide +kernel
theorem dL_law_941 : decode cL_law 941 = .ok (.iaload, 1) := by decide +kernel
theorem dL_law_942 : decode cL_law 942 = .ok (.invokevirtual 200, 3) := by decide +kernel
theorem dL_law_945 : decode cL_law 945 = .ok (.istore 7, 2) := by decide +kernel
theorem dL_law_947 : decode cL_law 947 = .ok (.aload_n 2, 1) := by decide +kernel
theorem dL_law_948 : decode cL_law 948 = .ok (.invokevirtual 158, 3) := by decide +kernel
theorem dL_law_951 : decode cL_law 951 = .ok (.iload 6, 2) := by decide +kernel
theorem dL_law_953 : decode cL_law 953 = .ok (.if_icmp .eq 5, 3) := by decide +kernel
theorem dL_law_956 : decode cL_law 956 = .ok (.iconst 0, 1) := by decide +kernel
theorem dL_law_957 : decode cL_law 957 = .ok (.ireturn, 1) := by decide +kernel
theorem dL_law_958 : decode cL_law 958 = .ok (.iload 6, 2) := by decide +kernel
theorem dL_law_960 : decode cL_law 960 = .ok (.ifCond .ne 15, 3) := by decide +kernel
theorem dL_law_963 : decode cL_law 963 = .ok (.aload_n 3, 1) := by decide +kernel
theorem dL_law_964 : decode cL_law 964 = .ok (.iconst 0, 1) := by decide +kernel
theorem dL_law_965 : decode cL_law 965 = .ok (.laload, 1) := by decide +kernel
theorem dL_law_966 : decode cL_law 966 = .ok (.iload 7, 2) := by decide +kernel
theorem dL_law_968 : decode cL_law 968 = .ok (.i2l, 1) := by decide +kernel
theorem dL_law_969 : decode cL_law 969 = .ok (.lcmp, 1) := by decide +kernel
theorem dL_law_970 : decode cL_law 970 = .ok (.ifCond .eq 5, 3) := by decide +kernel
theorem dL_law_973 : decode cL_law 973 = .ok (.iconst 0, 1) := by decide +kernel
theorem dL_law_974 : decode cL_law 974 = .ok (.ireturn, 1) := by decide +kernel
theorem dL_law_975 : decode cL_law 975 = .ok (.goto 1813, 3) := by decide +kernel
theorem dL_law_978 : decode cL_law 978 = .ok (.aload_n 1, 1) := by decide +kernel
theorem dL_law_979 : decode cL_law 979 = .ok (.aload_n 0, 1) := by decide +kernel
theorem dL_law_980 : decode cL_law 980 = .ok (.iload 5, 2) := by decide +kernel
theorem dL_law_982 : decode cL_law 982 = .ok (.iconst 1, 1) := by decide +kernel
theorem dL_law_983 : decode cL_law 983 = .ok (.iadd, 1) := by decide +kernel
theorem dL_law_984 : decode cL_law 984 = .ok (.iaload, 1) := by decide +kernel
theorem dL_law_985 : decode cL_law 985 = .ok (.aload_n 3, 1) := by decide +kernel
theorem dL_law_986 : decode cL_law 986 = .ok (.invokestatic 201, 3) := by decide +kernel
theorem dL_law_989 : decode cL_law 989 = .ok (.istore 6, 2) := by decide +kernel
theorem dL_law_991 : decode cL_law 991 = .ok (.aload_n 2, 1) := by decide +kernel
theorem dL_law_992 : decode cL_law 992 = .ok (.aload_n 0, 1) := by decide +kernel
theorem dL_law_993 : decode cL_law 993 = .ok (.iload 5, 2) := by decide +kernel
theorem dL_law_995 : decode cL_law 995 = .ok (.iconst 1, 1) := by decide +kernel
theorem dL_law_996 : decode cL_law 996 = .ok (.iadd, 1) := by decide +kernel
theorem dL_law_997 : decode cL_law 997 = .ok (.iaload, 1) := by decide +kernel
theorem dL_law_998 : decode cL_law 998 = .ok (.invokevirtual 203, 3) := by decide +kernel
theorem dL_law_1001 : decode cL_law 1001 = .ok (.istore 7, 2) := by decide +kernel
theorem dL_law_1003 : decode cL_law 1003 = .ok (.aload_n 2, 1) := by decide +kernel
theorem dL_law_1004 : decode cL_law 1004 = .ok (.invokevirtual 158, 3) := by decide +kernel
theorem dL_law_1007 : decode cL_law 1007 = .ok (.iload 6, 2) := by decide +kernel
theorem dL_law_1009 : decode cL_law 1009 = .ok (.if_icmp .eq 5, 3) := by decide +kernel
theorem dL_law_1012 : decode cL_law 1012 = .ok (.iconst 0, 1) := by decide +kernel
theorem dL_law_1013 : decode cL_law 1013 = .ok (.ireturn, 1) := by decide +kernel
theorem dL_law_1014 : decode cL_law 1014 = .ok (.iload 6, 2) := by decide +kernel
theorem dL_law_1016 : decode cL_law 1016 = .ok (.ifCond .ne 15, 3) := by decide +kernel
theorem dL_law_1019 : decode cL_law 1019 = .ok (.aload_n 3, 1) := by decide +kernel
theorem dL_law_1020 : decode cL_law 1020 = .ok (.iconst 0, 1) := by decide +kernel
theorem dL_law_1021 : decode cL_law 1021 = .ok (.laload, 1) := by decide +kernel
theorem dL_law_1022 : decode cL_law 1022 = .ok (.iload 7, 2) := by decide +kernel
theorem dL_law_1024 : decode cL_law 1024 = .ok (.i2l, 1) := by decide +kernel
theorem dL_law_1025 : decode cL_law 1025 = .ok (.lcmp, 1) := by decide +kernel
theorem dL_law_1026 : decode cL_law 1026 = .ok (.ifCond .eq 5, 3) := by decide +kernel
theorem dL_law_1029 : decode cL_law 1029 = .ok (.iconst 0, 1) := by decide +kernel
theorem dL_law_1030 : decode cL_law 1030 = .ok (.ireturn, 1) := by decide +kernel
theorem dL_law_1031 : decode cL_law 1031 = .ok (.goto 1757, 3) := by decide +kernel
theorem dL_law_1034 : decode cL_law 1034 = .ok (.aload_n 1, 1) := by decide +kernel
theorem dL_law_1035 : decode cL_law 1035 = .ok (.aload_n 0, 1) := by decide +kernel
theorem dL_law_1036 : decode cL_law 1036 = .ok (.iload 5, 2) := by decide +kernel
theorem dL_law_1038 : decode cL_law 1038 = .ok (.iconst 1, 1) := by decide +kernel
theorem dL_law_1039 : decode cL_law 1039 = .ok (.iadd, 1) := by decide +kernel
theorem dL_law_1040 : decode cL_law 1040 = .ok (.iaload, 1) := by decide +kernel
theorem dL_law_1041 : decode cL_law 1041 = .ok (.aload_n 0, 1) := by decide +kernel
theorem dL_law_1042 : decode cL_law 1042 = .ok (.iload 5, 2) := by decide +kernel
theorem dL_law_1044 : decode cL_law 1044 = .ok (.iconst 2, 1) := by decide +kernel
theorem dL_law_1045 : decode cL_law 1045 = .ok (.iadd, 1) := by decide +kernel
theorem dL_law_1046 : decode cL_law 1046 = .ok (.iaload, 1) := by decide +kernel
theorem dL_law_1047 : decode cL_law 1047 = .ok (.aload_n 3, 1) := by decide +kernel
theorem dL_law_1048 : decode cL_law 1048 = .ok (.invokestatic 204, 3) := by decide +kernel
theorem dL_law_1051 : decode cL_law 1051 = .ok (.istore 6, 2) := by decide +kernel
theorem dL_law_1053 : decode cL_law 1053 = .ok (.aload_n 2, 1) := by decide +kernel
theorem dL_law_1054 : decode cL_law 1054 = .ok (.aload_n 0, 1) := by decide +kernel
theorem dL_law_1055 : decode cL_law 1055 = .ok (.iload 5, 2) := by decide +kernel
theorem dL_law_1057 : decode cL_law 1057 = .ok (.iconst 1, 1) := by decide +kernel
theorem dL_law_1058 : decode cL_law 1058 = .ok (.iadd, 1) := by decide +kernel
theorem dL_law_1059 : decode cL_law 1059 = .ok (.iaload, 1) := by decide +kernel
theorem dL_law_1060 : decode cL_law 1060 = .ok (.aload_n 0, 1) := by decide +kernel
theorem dL_law_1061 : decode cL_law 1061 = .ok (.iload 5, 2) := by decide +kernel
theorem dL_law_1063 : decode cL_law 1063 = .ok (.iconst 2, 1) := by decide +kernel
theorem dL_law_1064 : decode cL_law 1064 = .ok (.iadd, 1) := by decide +kernel
theorem dL_law_1065 : decode cL_law 1065 = .ok (.iaload, 1) := by decide +kernel
theorem dL_law_1066 : decode cL_law 1066 = .ok (.invokevirtual 206, 3) := by decide +kernel
theorem dL_law_1069 : decode cL_law 1069 = .ok (.istore 7, 2) := by decide +kernel
theorem dL_law_1071 : decode cL_law 1071 = .ok (.aload_n 2, 1) := by decide +kernel
theorem dL_law_1072 : decode cL_law 1072 = .ok (.invokevirtual 158, 3) := by decide +kernel
theorem dL_law_1075 : decode cL_law 1075 = .ok (.iload 6, 2) := by decide +kernel
theorem dL_law_1077 : decode cL_law 1077 = .ok (.if_icmp .eq 5, 3) := by decide +kernel
theorem dL_law_1080 : decode cL_law 1080 = .ok (.iconst 0, 1) := by decide +kernel
theorem dL_law_1081 : decode cL_law 1081 = .ok (.ireturn, 1) := by decide +kernel
theorem dL_law_1082 : decode cL_law 1082 = .ok (.iload 6, 2) := by decide +kernel
theorem dL_law_1084 : decode cL_law 1084 = .ok (.ifCond .ne 15, 3) := by decide +kernel
theorem dL_law_1087 : decode cL_law 1087 = .ok (.aload_n 3, 1) := by decide +kernel
theorem dL_law_1088 : decode cL_law 1088 = .ok (.iconst 0, 1) := by decide +kernel
theorem dL_law_1089 : decode cL_law 1089 = .ok (.laload, 1) := by decide +kernel
theorem dL_law_1090 : decode cL_law 1090 = .ok (.iload 7, 2) := by decide +kernel
theorem dL_law_1092 : decode cL_law 1092 = .ok (.i2l, 1) := by decide +kernel
theorem dL_law_1093 : decode cL_law 1093 = .ok (.lcmp, 1) := by decide +kernel
theorem dL_law_1094 : decode cL_law 1094 = .ok (.ifCond .eq 5, 3) := by decide +kernel
theorem dL_law_1097 : decode cL_law 1097 = .ok (.iconst 0, 1) := by decide +kernel
theorem dL_law_1098 : decode cL_law 1098 = .ok (.ireturn, 1) := by decide +kernel
theorem dL_law_1099 : decode cL_law 1099 = .ok (.goto 1689, 3) := by decide +kernel
theorem dL_law_1102 : decode cL_law 1102 = .ok (.aload_n 1, 1) := by decide +kernel
theorem dL_law_1103 : decode cL_law 1103 = .ok (.aload_n 0, 1) := by decide +kernel
theorem dL_law_1104 : decode cL_law 1104 = .ok (.iload 5, 2) := by decide +kernel
theorem dL_law_1106 : decode cL_law 1106 = .ok (.iconst 1, 1) := by decide +kernel
theorem dL_law_1107 : decode cL_law 1107 = .ok (.iadd, 1) := by decide +kernel
theorem dL_law_1108 : decode cL_law 1108 = .ok (.iaload, 1) := by decide +kernel
theorem dL_law_1109 : decode cL_law 1109 = .ok (.aload_n 3, 1) := by decide +kernel
theorem dL_law_1110 : decode cL_law 1110 = .ok (.invokestatic 207, 3) := by decide +kernel
theorem dL_law_1113 : decode cL_law 1113 = .ok (.istore 6, 2) := by decide +kernel
theorem dL_law_1115 : decode cL_law 1115 = .ok (.aload_n 2, 1) := by decide +kernel
theorem dL_law_1116 : decode cL_law 1116 = .ok (.aload_n 0, 1) := by decide +kernel
theorem dL_law_1117 : decode cL_law 1117 = .ok (.iload 5, 2) := by decide +kernel
theorem dL_law_1119 : decode cL_law 1119 = .ok (.iconst 1, 1) := by decide +kernel
theorem dL_law_1120 : decode cL_law 1120 = .ok (.iadd, 1) := by decide +kernel
theorem dL_law_1121 : decode cL_law 1121 = .ok (.iaload, 1) := by decide +kernel
theorem dL_law_1122 : decode cL_law 1122 = .ok (.invokevirtual 209, 3) := by decide +kernel
theorem dL_law_1125 : decode cL_law 1125 = .ok (.istore 7, 2) := by decide +kernel
theorem dL_law_1127 : decode cL_law 1127 = .ok (.aload_n 2, 1) := by decide +kernel
theorem dL_law_1128 : decode cL_law 1128 = .ok (.invokevirtual 158, 3) := by decide +kernel
theorem dL_law_1131 : decode cL_law 1131 = .ok (.iload 6, 2) := by decide +kernel
theorem dL_law_1133 : decode cL_law 1133 = .ok (.if_icmp .eq 5, 3) := by decide +kernel
theorem dL_law_1136 : decode cL_law 1136 = .ok (.iconst 0, 1) := by decide +kernel
theorem dL_law_1137 : decode cL_law 1137 = .ok (.ireturn, 1) := by decide +kernel
theorem dL_law_1138 : decode cL_law 1138 = .ok (.iload 6, 2) := by decide +kernel
theorem dL_law_1140 : decode cL_law 1140 = .ok (.ifCond .ne 15, 3) := by decide +kernel
theorem dL_law_1143 : decode cL_law 1143 = .ok (.aload_n 3, 1) := by decide +kernel
theorem dL_law_1144 : decode cL_law 1144 = .ok (.iconst 0, 1) := by decide +kernel
theorem dL_law_1145 : decode cL_law 1145 = .ok (.laload, 1) := by decide +kernel
theorem dL_law_1146 : decode cL_law 1146 = .ok (.iload 7, 2) := by decide +kernel
theorem dL_law_1148 : decode cL_law 1148 = .ok (.i2l, 1) := by decide +kernel
theorem dL_law_1149 : decode cL_law 1149 = .ok (.lcmp, 1) := by decide +kernel
theorem dL_law_1150 : decode cL_law 1150 = .ok (.ifCond .eq 5, 3) := by decide +kernel
theorem dL_law_1153 : decode cL_law 1153 = .ok (.iconst 0, 1) := by decide +kernel
theorem dL_law_1154 : decode cL_law 1154 = .ok (.ireturn, 1) := by decide +kernel
theorem dL_law_1155 : decode cL_law 1155 = .ok (.goto 1633, 3) := by decide +kernel
theorem dL_law_1158 : decode cL_law 1158 = .ok (.aload_n 1, 1) := by decide +kernel
theorem dL_law_1159 : decode cL_law 1159 = .ok (.invokevirtual 210, 3) := by decide +kernel
theorem dL_law_1162 : decode cL_law 1162 = .ok (.aload_n 2, 1) := by decide +kernel
theorem dL_law_1163 : decode cL_law 1163 = .ok (.invokevirtual 213, 3) := by decide +kernel
theorem dL_law_1166 : decode cL_law 1166 = .ok (.if_icmp .eq 1622, 3) := by decide +kernel
theorem dL_law_1169 : decode cL_law 1169 = .ok (.iconst 0, 1) := by decide +kernel
theorem dL_law_1170 : decode cL_law 1170 = .ok (.ireturn, 1) := by decide +kernel
theorem dL_law_1171 : decode cL_law 1171 = .ok (.aload_n 1, 1) := by decide +kernel
theorem dL_law_1172 : decode cL_law 1172 = .ok (.aload_n 0, 1) := by decide +kernel
theorem dL_law_1173 : decode cL_law 1173 = .ok (.iload 5, 2) := by decide +kernel
theorem dL_law_1175 : decode cL_law 1175 = .ok (.iconst 1, 1) := by decide +kernel
theorem dL_law_1176 : decode cL_law 1176 = .ok (.iadd, 1) := by decide +kernel
theorem dL_law_1177 : decode cL_law 1177 = .ok (.iaload, 1) := by decide +kernel
theorem dL_law_1178 : decode cL_law 1178 = .ok (.aload_n 3, 1) := by decide +kernel
theorem dL_law_1179 : decode cL_law 1179 = .ok (.invokestatic 214, 3) := by decide +kernel
theorem dL_law_1182 : decode cL_law 1182 = .ok (.istore 6, 2) := by decide +kernel
theorem dL_law_1184 : decode cL_law 1184 = .ok (.aload_n 2, 1) := by decide +kernel
theorem dL_law_1185 : decode cL_law 1185 = .ok (.aload_n 0, 1) := by decide +kernel
theorem dL_law_1186 : decode cL_law 1186 = .ok (.iload 5, 2) := by decide +kernel
theorem dL_law_1188 : decode cL_law 1188 = .ok (.iconst 1, 1) := by decide +kernel
theorem dL_law_1189 : decode cL_law 1189 = .ok (.iadd, 1) := by decide +kernel
theorem dL_law_1190 : decode cL_law 1190 = .ok (.iaload, 1) := by decide +kernel
theorem dL_law_1191 : decode cL_law 1191 = .ok (.invokevirtual 216, 3) := by decide +kernel
theorem dL_law_1194 : decode cL_law 1194 = .ok (.istore 7, 2) := by decide +kernel
theorem dL_law_1196 : decode cL_law 1196 = .ok (.aload_n 2, 1) := by decide +kernel
theorem dL_law_1197 : decode cL_law 1197 = .ok (.invokevirtual 158, 3) := by decide +kernel
theorem dL_law_1200 : decode cL_law 1200 = .ok (.iload 6, 2) := by decide +kernel
theorem dL_law_1202 : decode cL_law 1202 = .ok (.if_icmp .eq 5, 3) := by decide +kernel
theorem dL_law_1205 : decode cL_law 1205 = .ok (.iconst 0, 1) := by decide +kernel
theorem dL_law_1206 : decode cL_law 1206 = .ok (.ireturn, 1) := by decide +kernel
theorem dL_law_1207 : decode cL_law 1207 = .ok (.iload 6, 2) := by decide +kernel
theorem dL_law_1209 : decode cL_law 1209 = .ok (.ifCond .ne 15, 3) := by decide +kernel
theorem dL_law_1212 : decode cL_law 1212 = .ok (.aload_n 3, 1) := by decide +kernel
theorem dL_law_1213 : decode cL_law 1213 = .ok (.iconst 0, 1) := by decide +kernel
theorem dL_law_1214 : decode cL_law 1214 = .ok (.laload, 1) := by decide +kernel
theorem dL_law_1215 : decode cL_law 1215 = .ok (.iload 7, 2) := by decide +kernel
theorem dL_law_1217 : decode cL_law 1217 = .ok (.i2l, 1) := by decide +kernel
theorem dL_law_1218 : decode cL_law 1218 = .ok (.lcmp, 1) := by decide +kernel
theorem dL_law_1219 : decode cL_law 1219 = .ok (.ifCond .eq 5, 3) := by decide +kernel
theorem dL_law_1222 : decode cL_law 1222 = .ok (.iconst 0, 1) := by decide +kernel
theorem dL_law_1223 : decode cL_law 1223 = .ok (.ireturn, 1) := by decide +kernel
theorem dL_law_1224 : decode cL_law 1224 = .ok (.goto 1564, 3) := by decide +kernel
theorem dL_law_1227 : decode cL_law 1227 = .ok (.aload_n 1, 1) := by decide +kernel
theorem dL_law_1228 : decode cL_law 1228 = .ok (.aload_n 0, 1) := by decide +kernel
theorem dL_law_1229 : decode cL_law 1229 = .ok (.iload 5, 2) := by decide +kernel
theorem dL_law_1231 : decode cL_law 1231 = .ok (.iconst 1, 1) := by decide +kernel
theorem dL_law_1232 : decode cL_law 1232 = .ok (.iadd, 1) := by decide +kernel
theorem dL_law_1233 : decode cL_law 1233 = .ok (.iaload, 1) := by decide +kernel
theorem dL_law_1234 : decode cL_law 1234 = .ok (.aload_n 3, 1) := by decide +kernel
theorem dL_law_1235 : decode cL_law 1235 = .ok (.invokestatic 217, 3) := by decide +kernel
theorem dL_law_1238 : decode cL_law 1238 = .ok (.istore 6, 2) := by decide +kernel
theorem dL_law_1240 : decode cL_law 1240 = .ok (.aload_n 2, 1) := by decide +kernel
theorem dL_law_1241 : decode cL_law 1241 = .ok (.aload_n 0, 1) := by decide +kernel
theorem dL_law_1242 : decode cL_law 1242 = .ok (.iload 5, 2) := by decide +kernel
theorem dL_law_1244 : decode cL_law 1244 = .ok (.iconst 1, 1) := by decide +kernel
theorem dL_law_1245 : decode cL_law 1245 = .ok (.iadd, 1) := by decide +kernel
theorem dL_law_1246 : decode cL_law 1246 = .ok (.iaload, 1) := by decide +kernel
theorem dL_law_1247 : decode cL_law 1247 = .ok (.invokevirtual 219, 3) := by decide +kernel
theorem dL_law_1250 : decode cL_law 1250 = .ok (.istore 7, 2) := by decide +kernel
theorem dL_law_1252 : decode cL_law 1252 = .ok (.aload_n 2, 1) := by decide +kernel
theorem dL_law_1253 : decode cL_law 1253 = .ok (.invokevirtual 158, 3) := by decide +kernel
theorem dL_law_1256 : decode cL_law 1256 = .ok (.iload 6, 2) := by decide +kernel
theorem dL_law_1258 : decode cL_law 1258 = .ok (.if_icmp .eq 5, 3) := by decide +kernel
theorem dL_law_1261 : decode cL_law 1261 = .ok (.iconst 0, 1) := by decide +kernel
theorem dL_law_1262 : decode cL_law 1262 = .ok (.ireturn, 1) := by decide +kernel
theorem dL_law_1263 : decode cL_law 1263 = .ok (.iload 6, 2) := by decide +kernel
theorem dL_law_1265 : decode cL_law 1265 = .ok (.ifCond .ne 15, 3) := by decide +kernel
theorem dL_law_1268 : decode cL_law 1268 = .ok (.aload_n 3, 1) := by decide +kernel
theorem dL_law_1269 : decode cL_law 1269 = .ok (.iconst 0, 1) := by decide +kernel
theorem dL_law_1270 : decode cL_law 1270 = .ok (.laload, 1) := by decide +kernel
theorem dL_law_1271 : decode cL_law 1271 = .ok (.iload 7, 2) := by decide +kernel
theorem dL_law_1273 : decode cL_law 1273 = .ok (.i2l, 1) := by decide +kernel
theorem dL_law_1274 : decode cL_law 1274 = .ok (.lcmp, 1) := by decide +kernel
theorem dL_law_1275 : decode cL_law 1275 = .ok (.ifCond .eq 5, 3) := by decide +kernel
theorem dL_law_1278 : decode cL_law 1278 = .ok (.iconst 0, 1) := by decide +kernel
theorem dL_law_1279 : decode cL_law 1279 = .ok (.ireturn, 1) := by decide +kernel
theorem dL_law_1280 : decode cL_law 1280 = .ok (.goto 1508, 3) := by decide +kernel
theorem dL_law_1283 : decode cL_law 1283 = .ok (.aload_n 1, 1) := by decide +kernel
theorem dL_law_1284 : decode cL_law 1284 = .ok (.aload_n 0, 1) := by decide +kernel
theorem dL_law_1285 : decode cL_law 1285 = .ok (.iload 5, 2) := by decide +kernel
theorem dL_law_1287 : decode cL_law 1287 = .ok (.iconst 1, 1) := by decide +kernel
theorem dL_law_1288 : decode cL_law 1288 = .ok (.iadd, 1) := by decide +kernel
theorem dL_law_1289 : decode cL_law 1289 = .ok (.iaload, 1) := by decide +kernel
theorem dL_law_1290 : decode cL_law 1290 = .ok (.aload_n 3, 1) := by decide +kernel
theorem dL_law_1291 : decode cL_law 1291 = .ok (.invokestatic 220, 3) := by decide +kernel
theorem dL_law_1294 : decode cL_law 1294 = .ok (.istore 6, 2) := by decide +kernel
theorem dL_law_1296 : decode cL_law 1296 = .ok (.aload_n 2, 1) := by decide +kernel
theorem dL_law_1297 : decode cL_law 1297 = .ok (.aload_n 0, 1) := by decide +kernel
theorem dL_law_1298 : decode cL_law 1298 = .ok (.iload 5, 2) := by decide +kernel
theorem dL_law_1300 : decode cL_law 1300 = .ok (.iconst 1, 1) := by decide +kernel
theorem dL_law_1301 : decode cL_law 1301 = .ok (.iadd, 1) := by decide +kernel
theorem dL_law_1302 : decode cL_law 1302 = .ok (.iaload, 1) := by decide +kernel
theorem dL_law_1303 : decode cL_law 1303 = .ok (.invokevirtual 222, 3) := by decide +kernel
theorem dL_law_1306 : decode cL_law 1306 = .ok (.istore 7, 2) := by decide +kernel
theorem dL_law_1308 : decode cL_law 1308 = .ok (.aload_n 2, 1) := by decide +kernel
theorem dL_law_1309 : decode cL_law 1309 = .ok (.invokevirtual 158, 3) := by decide +kernel
theorem dL_law_1312 : decode cL_law 1312 = .ok (.iload 6, 2) := by decide +kernel
theorem dL_law_1314 : decode cL_law 1314 = .ok (.if_icmp .eq 5, 3) := by decide +kernel
theorem dL_law_1317 : decode cL_law 1317 = .ok (.iconst 0, 1) := by decide +kernel
theorem dL_law_1318 : decode cL_law 1318 = .ok (.ireturn, 1) := by decide +kernel
theorem dL_law_1319 : decode cL_law 1319 = .ok (.iload 6, 2) := by decide +kernel
theorem dL_law_1321 : decode cL_law 1321 = .ok (.ifCond .ne 15, 3) := by decide +kernel
theorem dL_law_1324 : decode cL_law 1324 = .ok (.aload_n 3, 1) := by decide +kernel
theorem dL_law_1325 : decode cL_law 1325 = .ok (.iconst 0, 1) := by decide +kernel
theorem dL_law_1326 : decode cL_law 1326 = .ok (.laload, 1) := by decide +kernel
theorem dL_law_1327 : decode cL_law 1327 = .ok (.iload 7, 2) := by decide +kernel
theorem dL_law_1329 : decode cL_law 1329 = .ok (.i2l, 1) := by decide +kernel
theorem dL_law_1330 : decode cL_law 1330 = .ok (.lcmp, 1) := by decide +kernel
theorem dL_law_1331 : decode cL_law 1331 = .ok (.ifCond .eq 5, 3) := by decide +kernel
theorem dL_law_1334 : decode cL_law 1334 = .ok (.iconst 0, 1) := by decide +kernel
theorem dL_law_1335 : decode cL_law 1335 = .ok (.ireturn, 1) := by decide +kernel
theorem dL_law_1336 : decode cL_law 1336 = .ok (.goto 1452, 3) := by decide +kernel
theorem dL_law_1339 : decode cL_law 1339 = .ok (.aload_n 1, 1) := by decide +kernel
theorem dL_law_1340 : decode cL_law 1340 = .ok (.aload_n 0, 1) := by decide +kernel
theorem dL_law_1341 : decode cL_law 1341 = .ok (.iload 5, 2) := by decide +kernel
theorem dL_law_1343 : decode cL_law 1343 = .ok (.iconst 1, 1) := by decide +kernel
theorem dL_law_1344 : decode cL_law 1344 = .ok (.iadd, 1) := by decide +kernel
theorem dL_law_1345 : decode cL_law 1345 = .ok (.iaload, 1) := by decide +kernel
theorem dL_law_1346 : decode cL_law 1346 = .ok (.aload_n 0, 1) := by decide +kernel
theorem dL_law_1347 : decode cL_law 1347 = .ok (.iload 5, 2) := by decide +kernel
theorem dL_law_1349 : decode cL_law 1349 = .ok (.iconst 2, 1) := by decide +kernel
theorem dL_law_1350 : decode cL_law 1350 = .ok (.iadd, 1) := by decide +kernel
theorem dL_law_1351 : decode cL_law 1351 = .ok (.iaload, 1) := by decide +kernel
theorem dL_law_1352 : decode cL_law 1352 = .ok (.aload_n 3, 1) := by decide +kernel
theorem dL_law_1353 : decode cL_law 1353 = .ok (.invokestatic 223, 3) := by decide +kernel
theorem dL_law_1356 : decode cL_law 1356 = .ok (.istore 6, 2) := by decide +kernel
theorem dL_law_1358 : decode cL_law 1358 = .ok (.aload_n 2, 1) := by decide +kernel
theorem dL_law_1359 : decode cL_law 1359 = .ok (.aload_n 0, 1) := by decide +kernel
theorem dL_law_1360 : decode cL_law 1360 = .ok (.iload 5, 2) := by decide +kernel
theorem dL_law_1362 : decode cL_law 1362 = .ok (.iconst 1, 1) := by decide +kernel
theorem dL_law_1363 : decode cL_law 1363 = .ok (.iadd, 1) := by decide +kernel
theorem dL_law_1364 : decode cL_law 1364 = .ok (.iaload, 1) := by decide +kernel
theorem dL_law_1365 : decode cL_law 1365 = .ok (.aload_n 0, 1) := by decide +kernel
theorem dL_law_1366 : decode cL_law 1366 = .ok (.iload 5, 2) := by decide +kernel
theorem dL_law_1368 : decode cL_law 1368 = .ok (.iconst 2, 1) := by decide +kernel
theorem dL_law_1369 : decode cL_law 1369 = .ok (.iadd, 1) := by decide +kernel
theorem dL_law_1370 : decode cL_law 1370 = .ok (.iaload, 1) := by decide +kernel
theorem dL_law_1371 : decode cL_law 1371 = .ok (.invokevirtual 225, 3) := by decide +kernel
theorem dL_law_1374 : decode cL_law 1374 = .ok (.istore 7, 2) := by decide +kernel
theorem dL_law_1376 : decode cL_law 1376 = .ok (.aload_n 2, 1) := by decide +kernel
theorem dL_law_1377 : decode cL_law 1377 = .ok (.invokevirtual 158, 3) := by decide +kernel
theorem dL_law_1380 : decode cL_law 1380 = .ok (.iload 6, 2) := by decide +kernel
theorem dL_law_1382 : decode cL_law 1382 = .ok (.if_icmp .eq 5, 3) := by decide +kernel
theorem dL_law_1385 : decode cL_law 1385 = .ok (.iconst 0, 1) := by decide +kernel
theorem dL_law_1386 : decode cL_law 1386 = .ok (.ireturn, 1) := by decide +kernel
theorem dL_law_1387 : decode cL_law 1387 = .ok (.iload 6, 2) := by decide +kernel
theorem dL_law_1389 : decode cL_law 1389 = .ok (.ifCond .ne 15, 3) := by decide +kernel
theorem dL_law_1392 : decode cL_law 1392 = .ok (.aload_n 3, 1) := by decide +kernel
theorem dL_law_1393 : decode cL_law 1393 = .ok (.iconst 0, 1) := by decide +kernel
theorem dL_law_1394 : decode cL_law 1394 = .ok (.laload, 1) := by decide +kernel
theorem dL_law_1395 : decode cL_law 1395 = .ok (.iload 7, 2) := by decide +kernel
theorem dL_law_1397 : decode cL_law 1397 = .ok (.i2l, 1) := by decide +kernel
theorem dL_law_1398 : decode cL_law 1398 = .ok (.lcmp, 1) := by decide +kernel
theorem dL_law_1399 : decode cL_law 1399 = .ok (.ifCond .eq 5, 3) := by decide +kernel
theorem dL_law_1402 : decode cL_law 1402 = .ok (.iconst 0, 1) := by decide +kernel
theorem dL_law_1403 : decode cL_law 1403 = .ok (.ireturn, 1) := by decide +kernel
theorem dL_law_1404 : decode cL_law 1404 = .ok (.goto 1384, 3) := by decide +kernel
theorem dL_law_1407 : decode cL_law 1407 = .ok (.aload_n 1, 1) := by decide +kernel
theorem dL_law_1408 : decode cL_law 1408 = .ok (.aload_n 0, 1) := by decide +kernel
theorem dL_law_1409 : decode cL_law 1409 = .ok (.iload 5, 2) := by decide +kernel
theorem dL_law_1411 : decode cL_law 1411 = .ok (.iconst 1, 1) := by decide +kernel
theorem dL_law_1412 : decode cL_law 1412 = .ok (.iadd, 1) := by decide +kernel
theorem dL_law_1413 : decode cL_law 1413 = .ok (.iaload, 1) := by decide +kernel
theorem dL_law_1414 : decode cL_law 1414 = .ok (.aload_n 3, 1) := by decide +kernel
theorem dL_law_1415 : decode cL_law 1415 = .ok (.invokestatic 226, 3) := by decide +kernel
theorem dL_law_1418 : decode cL_law 1418 = .ok (.istore 6, 2) := by decide +kernel
theorem dL_law_1420 : decode cL_law 1420 = .ok (.aload_n 2, 1) := by decide +kernel
theorem dL_law_1421 : decode cL_law 1421 = .ok (.aload_n 0, 1) := by decide +kernel
theorem dL_law_1422 : decode cL_law 1422 = .ok (.iload 5, 2) := by decide +kernel
theorem dL_law_1424 : decode cL_law 1424 = .ok (.iconst 1, 1) := by decide +kernel
theorem dL_law_1425 : decode cL_law 1425 = .ok (.iadd, 1) := by decide +kernel
theorem dL_law_1426 : decode cL_law 1426 = .ok (.iaload, 1) := by decide +kernel
theorem dL_law_1427 : decode cL_law 1427 = .ok (.invokevirtual 228, 3) := by decide +kernel
theorem dL_law_1430 : decode cL_law 1430 = .ok (.istore 7, 2) := by decide +kernel
theorem dL_law_1432 : decode cL_law 1432 = .ok (.aload_n 2, 1) := by decide +kernel
theorem dL_law_1433 : decode cL_law 1433 = .ok (.invokevirtual 158, 3) := by decide +kernel
theorem dL_law_1436 : decode cL_law 1436 = .ok (.iload 6, 2) := by decide +kernel
theorem dL_law_1438 : decode cL_law 1438 = .ok (.if_icmp .eq 5, 3) := by decide +kernel
theorem dL_law_1441 : decode cL_law 1441 = .ok (.iconst 0, 1) := by decide +kernel
theorem dL_law_1442 : decode cL_law 1442 = .ok (.ireturn, 1) := by decide +kernel
theorem dL_law_1443 : decode cL_law 1443 = .ok (.iload 6, 2) := by decide +kernel
theorem dL_law_1445 : decode cL_law 1445 = .ok (.ifCond .ne 15, 3) := by decide +kernel
theorem dL_law_1448 : decode cL_law 1448 = .ok (.aload_n 3, 1) := by decide +kernel
theorem dL_law_1449 : decode cL_law 1449 = .ok (.iconst 0, 1) := by decide +kernel
theorem dL_law_1450 : decode cL_law 1450 = .ok (.laload, 1) := by decide +kernel
theorem dL_law_1451 : decode cL_law 1451 = .ok (.iload 7, 2) := by decide +kernel
theorem dL_law_1453 : decode cL_law 1453 = .ok (.i2l, 1) := by decide +kernel
theorem dL_law_1454 : decode cL_law 1454 = .ok (.lcmp, 1) := by decide +kernel
theorem dL_law_1455 : decode cL_law 1455 = .ok (.ifCond .eq 5, 3) := by decide +kernel
theorem dL_law_1458 : decode cL_law 1458 = .ok (.iconst 0, 1) := by decide +kernel
theorem dL_law_1459 : decode cL_law 1459 = .ok (.ireturn, 1) := by decide +kernel
theorem dL_law_1460 : decode cL_law 1460 = .ok (.goto 1328, 3) := by decide +kernel
theorem dL_law_1463 : decode cL_law 1463 = .ok (.aload_n 1, 1) := by decide +kernel
theorem dL_law_1464 : decode cL_law 1464 = .ok (.aload_n 0, 1) := by decide +kernel
theorem dL_law_1465 : decode cL_law 1465 = .ok (.iload 5, 2) := by decide +kernel
theorem dL_law_1467 : decode cL_law 1467 = .ok (.iconst 1, 1) := by decide +kernel
theorem dL_law_1468 : decode cL_law 1468 = .ok (.iadd, 1) := by decide +kernel
theorem dL_law_1469 : decode cL_law 1469 = .ok (.iaload, 1) := by decide +kernel
theorem dL_law_1470 : decode cL_law 1470 = .ok (.aload_n 3, 1) := by decide +kernel
theorem dL_law_1471 : decode cL_law 1471 = .ok (.invokestatic 229, 3) := by decide +kernel
theorem dL_law_1474 : decode cL_law 1474 = .ok (.istore 6, 2) := by decide +kernel
theorem dL_law_1476 : decode cL_law 1476 = .ok (.aload_n 2, 1) := by decide +kernel
theorem dL_law_1477 : decode cL_law 1477 = .ok (.aload_n 0, 1) := by decide +kernel
theorem dL_law_1478 : decode cL_law 1478 = .ok (.iload 5, 2) := by decide +kernel
theorem dL_law_1480 : decode cL_law 1480 = .ok (.iconst 1, 1) := by decide +kernel
theorem dL_law_1481 : decode cL_law 1481 = .ok (.iadd, 1) := by decide +kernel
theorem dL_law_1482 : decode cL_law 1482 = .ok (.iaload, 1) := by decide +kernel
theorem dL_law_1483 : decode cL_law 1483 = .ok (.invokevirtual 231, 3) := by decide +kernel
theorem dL_law_1486 : decode cL_law 1486 = .ok (.istore 7, 2) := by decide +kernel
theorem dL_law_1488 : decode cL_law 1488 = .ok (.aload_n 2, 1) := by decide +kernel
theorem dL_law_1489 : decode cL_law 1489 = .ok (.invokevirtual 158, 3) := by decide +kernel
theorem dL_law_1492 : decode cL_law 1492 = .ok (.iload 6, 2) := by decide +kernel
theorem dL_law_1494 : decode cL_law 1494 = .ok (.if_icmp .eq 5, 3) := by decide +kernel
theorem dL_law_1497 : decode cL_law 1497 = .ok (.iconst 0, 1) := by decide +kernel
theorem dL_law_1498 : decode cL_law 1498 = .ok (.ireturn, 1) := by decide +kernel
theorem dL_law_1499 : decode cL_law 1499 = .ok (.iload 6, 2) := by decide +kernel
theorem dL_law_1501 : decode cL_law 1501 = .ok (.ifCond .ne 15, 3) := by decide +kernel
theorem dL_law_1504 : decode cL_law 1504 = .ok (.aload_n 3, 1) := by decide +kernel
theorem dL_law_1505 : decode cL_law 1505 = .ok (.iconst 0, 1) := by decide +kernel
theorem dL_law_1506 : decode cL_law 1506 = .ok (.laload, 1) := by decide +kernel
theorem dL_law_1507 : decode cL_law 1507 = .ok (.iload 7, 2) := by decide +kernel
theorem dL_law_1509 : decode cL_law 1509 = .ok (.i2l, 1) := by decide +kernel
theorem dL_law_1510 : decode cL_law 1510 = .ok (.lcmp, 1) := by decide +kernel
theorem dL_law_1511 : decode cL_law 1511 = .ok (.ifCond .eq 5, 3) := by decide +kernel
theorem dL_law_1514 : decode cL_law 1514 = .ok (.iconst 0, 1) := by decide +kernel
theorem dL_law_1515 : decode cL_law 1515 = .ok (.ireturn, 1) := by decide +kernel
theorem dL_law_1516 : decode cL_law 1516 = .ok (.goto 1272, 3) := by decide +kernel
theorem dL_law_1519 : decode cL_law 1519 = .ok (.aload_n 1, 1) := by decide +kernel
theorem dL_law_1520 : decode cL_law 1520 = .ok (.aload_n 0, 1) := by decide +kernel
theorem dL_law_1521 : decode cL_law 1521 = .ok (.iload 5, 2) := by decide +kernel
theorem dL_law_1523 : decode cL_law 1523 = .ok (.iconst 1, 1) := by decide +kernel
theorem dL_law_1524 : decode cL_law 1524 = .ok (.iadd, 1) := by decide +kernel
theorem dL_law_1525 : decode cL_law 1525 = .ok (.iaload, 1) := by decide +kernel
theorem dL_law_1526 : decode cL_law 1526 = .ok (.aload 4, 2) := by decide +kernel
theorem dL_law_1528 : decode cL_law 1528 = .ok (.invokestatic 232, 3) := by decide +kernel
theorem dL_law_1531 : decode cL_law 1531 = .ok (.istore 6, 2) := by decide +kernel
theorem dL_law_1533 : decode cL_law 1533 = .ok (.aload_n 2, 1) := by decide +kernel
theorem dL_law_1534 : decode cL_law 1534 = .ok (.aload_n 0, 1) := by decide +kernel
theorem dL_law_1535 : decode cL_law 1535 = .ok (.iload 5, 2) := by decide +kernel
theorem dL_law_1537 : decode cL_law 1537 = .ok (.iconst 1, 1) := by decide +kernel
theorem dL_law_1538 : decode cL_law 1538 = .ok (.iadd, 1) := by decide +kernel
theorem dL_law_1539 : decode cL_law 1539 = .ok (.iaload, 1) := by decide +kernel
theorem dL_law_1540 : decode cL_law 1540 = .ok (.invokevirtual 235, 3) := by decide +kernel
theorem dL_law_1543 : decode cL_law 1543 = .ok (.fstore 7, 2) := by decide +kernel
theorem dL_law_1545 : decode cL_law 1545 = .ok (.aload_n 2, 1) := by decide +kernel
theorem dL_law_1546 : decode cL_law 1546 = .ok (.invokevirtual 158, 3) := by decide +kernel
theorem dL_law_1549 : decode cL_law 1549 = .ok (.iload 6, 2) := by decide +kernel
theorem dL_law_1551 : decode cL_law 1551 = .ok (.if_icmp .eq 5, 3) := by decide +kernel
theorem dL_law_1554 : decode cL_law 1554 = .ok (.iconst 0, 1) := by decide +kernel
theorem dL_law_1555 : decode cL_law 1555 = .ok (.ireturn, 1) := by decide +kernel
theorem dL_law_1556 : decode cL_law 1556 = .ok (.iload 6, 2) := by decide +kernel
theorem dL_law_1558 : decode cL_law 1558 = .ok (.ifCond .ne 36, 3) := by decide +kernel
theorem dL_law_1561 : decode cL_law 1561 = .ok (.aload 4, 2) := by decide +kernel
theorem dL_law_1563 : decode cL_law 1563 = .ok (.iconst 0, 1) := by decide +kernel
theorem dL_law_1564 : decode cL_law 1564 = .ok (.daload, 1) := by decide +kernel
theorem dL_law_1565 : decode cL_law 1565 = .ok (.fload 7, 2) := by decide +kernel
theorem dL_law_1567 : decode cL_law 1567 = .ok (.f2d, 1) := by decide +kernel
theorem dL_law_1568 : decode cL_law 1568 = .ok (.dcmp .l, 1) := by decide +kernel
theorem dL_law_1569 : decode cL_law 1569 = .ok (.ifCond .eq 25, 3) := by decide +kernel
theorem dL_law_1572 : decode cL_law 1572 = .ok (.aload 4, 2) := by decide +kernel
theorem dL_law_1574 : decode cL_law 1574 = .ok (.iconst 0, 1) := by decide +kernel
theorem dL_law_1575 : decode cL_law 1575 = .ok (.daload, 1) := by decide +kernel
theorem dL_law_1576 : decode cL_law 1576 = .ok (.aload 4, 2) := by decide +kernel
theorem dL_law_1578 : decode cL_law 1578 = .ok (.iconst 0, 1) := by decide +kernel
theorem dL_law_1579 : decode cL_law 1579 = .ok (.daload, 1) := by decide +kernel
theorem dL_law_1580 : decode cL_law 1580 = .ok (.dcmp .l, 1) := by decide +kernel
theorem dL_law_1581 : decode cL_law 1581 = .ok (.ifCond .eq 11, 3) := by decide +kernel
theorem dL_law_1584 : decode cL_law 1584 = .ok (.fload 7, 2) := by decide +kernel
theorem dL_law_1586 : decode cL_law 1586 = .ok (.fload 7, 2) := by decide +kernel
theorem dL_law_1588 : decode cL_law 1588 = .ok (.fcmp .l, 1) := by decide +kernel
theorem dL_law_1589 : decode cL_law 1589 = .ok (.ifCond .ne 5, 3) := by decide +kernel
theorem dL_law_1592 : decode cL_law 1592 = .ok (.iconst 0, 1) := by decide +kernel
theorem dL_law_1593 : decode cL_law 1593 = .ok (.ireturn, 1) := by decide +kernel
theorem dL_law_1594 : decode cL_law 1594 = .ok (.goto 1194, 3) := by decide +kernel
theorem dL_law_1597 : decode cL_law 1597 = .ok (.aload_n 1, 1) := by decide +kernel
theorem dL_law_1598 : decode cL_law 1598 = .ok (.invokevirtual 236, 3) := by decide +kernel
theorem dL_law_1601 : decode cL_law 1601 = .ok (.dstore 6, 2) := by decide +kernel
theorem dL_law_1603 : decode cL_law 1603 = .ok (.aload_n 2, 1) := by decide +kernel
theorem dL_law_1604 : decode cL_law 1604 = .ok (.invokevirtual 240, 3) := by decide +kernel
theorem dL_law_1607 : decode cL_law 1607 = .ok (.dstore 8, 2) := by decide +kernel
theorem dL_law_1609 : decode cL_law 1609 = .ok (.dload 6, 2) := by decide +kernel
theorem dL_law_1611 : decode cL_law 1611 = .ok (.dload 8, 2) := by decide +kernel
theorem dL_law_1613 : decode cL_law 1613 = .ok (.dcmp .l, 1) := by decide +kernel
theorem dL_law_1614 : decode cL_law 1614 = .ok (.ifCond .eq 21, 3) := by decide +kernel
theorem dL_law_1617 : decode cL_law 1617 = .ok (.dload 6, 2) := by decide +kernel
theorem dL_law_1619 : decode cL_law 1619 = .ok (.dload 6, 2) := by decide +kernel
theorem dL_law_1621 : decode cL_law 1621 = .ok (.dcmp .l, 1) := by decide +kernel
theorem dL_law_1622 : decode cL_law 1622 = .ok (.ifCond .eq 11, 3) := by decide +kernel
theorem dL_law_1625 : decode cL_law 1625 = .ok (.dload 8, 2) := by decide +kernel
theorem dL_law_1627 : decode cL_law 1627 = .ok (.dload 8, 2) := by decide +kernel
theorem dL_law_1629 : decode cL_law 1629 = .ok (.dcmp .l, 1) := by decide +kernel
theorem dL_law_1630 : decode cL_law 1630 = .ok (.ifCond .ne 5, 3) := by decide +kernel
theorem dL_law_1633 : decode cL_law 1633 = .ok (.iconst 0, 1) := by decide +kernel
theorem dL_law_1634 : decode cL_law 1634 = .ok (.ireturn, 1) := by decide +kernel
theorem dL_law_1635 : decode cL_law 1635 = .ok (.goto 1153, 3) := by decide +kernel
theorem dL_law_1638 : decode cL_law 1638 = .ok (.aload_n 1, 1) := by decide +kernel
theorem dL_law_1639 : decode cL_law 1639 = .ok (.aload_n 0, 1) := by decide +kernel
theorem dL_law_1640 : decode cL_law 1640 = .ok (.iload 5, 2) := by decide +kernel
theorem dL_law_1642 : decode cL_law 1642 = .ok (.iconst 1, 1) := by decide +kernel
theorem dL_law_1643 : decode cL_law 1643 = .ok (.iadd, 1) := by decide +kernel
theorem dL_law_1644 : decode cL_law 1644 = .ok (.iaload, 1) := by decide +kernel
theorem dL_law_1645 : decode cL_law 1645 = .ok (.aload_n 3, 1) := by decide +kernel
theorem dL_law_1646 : decode cL_law 1646 = .ok (.invokestatic 241, 3) := by decide +kernel
theorem dL_law_1649 : decode cL_law 1649 = .ok (.istore 6, 2) := by decide +kernel
theorem dL_law_1651 : decode cL_law 1651 = .ok (.aload_n 2, 1) := by decide +kernel
theorem dL_law_1652 : decode cL_law 1652 = .ok (.aload_n 0, 1) := by decide +kernel
theorem dL_law_1653 : decode cL_law 1653 = .ok (.iload 5, 2) := by decide +kernel
theorem dL_law_1655 : decode cL_law 1655 = .ok (.iconst 1, 1) := by decide +kernel
theorem dL_law_1656 : decode cL_law 1656 = .ok (.iadd, 1) := by decide +kernel
theorem dL_law_1657 : decode cL_law 1657 = .ok (.iaload, 1) := by decide +kernel
theorem dL_law_1658 : decode cL_law 1658 = .ok (.invokevirtual 243, 3) := by decide +kernel
theorem dL_law_1661 : decode cL_law 1661 = .ok (.istore 7, 2) := by decide +kernel
theorem dL_law_1663 : decode cL_law 1663 = .ok (.aload_n 2, 1) := by decide +kernel
theorem dL_law_1664 : decode cL_law 1664 = .ok (.invokevirtual 158, 3) := by decide +kernel
theorem dL_law_1667 : decode cL_law 1667 = .ok (.iload 6, 2) := by decide +kernel
theorem dL_law_1669 : decode cL_law 1669 = .ok (.if_icmp .eq 5, 3) := by decide +kernel
theorem dL_law_1672 : decode cL_law 1672 = .ok (.iconst 0, 1) := by decide +kernel
theorem dL_law_1673 : decode cL_law 1673 = .ok (.ireturn, 1) := by decide +kernel
theorem dL_law_1674 : decode cL_law 1674 = .ok (.iload 6, 2) := by decide +kernel
theorem dL_law_1676 : decode cL_law 1676 = .ok (.ifCond .ne 15, 3) := by decide +kernel
theorem dL_law_1679 : decode cL_law 1679 = .ok (.aload_n 3, 1) := by decide +kernel
theorem dL_law_1680 : decode cL_law 1680 = .ok (.iconst 0, 1) := by decide +kernel
theorem dL_law_1681 : decode cL_law 1681 = .ok (.laload, 1) := by decide +kernel
theorem dL_law_1682 : decode cL_law 1682 = .ok (.iload 7, 2) := by decide +kernel
theorem dL_law_1684 : decode cL_law 1684 = .ok (.i2l, 1) := by decide +kernel
theorem dL_law_1685 : decode cL_law 1685 = .ok (.lcmp, 1) := by decide +kernel
theorem dL_law_1686 : decode cL_law 1686 = .ok (.ifCond .eq 5, 3) := by decide +kernel
theorem dL_law_1689 : decode cL_law 1689 = .ok (.iconst 0, 1) := by decide +kernel
theorem dL_law_1690 : decode cL_law 1690 = .ok (.ireturn, 1) := by decide +kernel
theorem dL_law_1691 : decode cL_law 1691 = .ok (.goto 1097, 3) := by decide +kernel
theorem dL_law_1694 : decode cL_law 1694 = .ok (.aload_n 1, 1) := by decide +kernel
theorem dL_law_1695 : decode cL_law 1695 = .ok (.aload_n 0, 1) := by decide +kernel
theorem dL_law_1696 : decode cL_law 1696 = .ok (.iload 5, 2) := by decide +kernel
theorem dL_law_1698 : decode cL_law 1698 = .ok (.iconst 1, 1) := by decide +kernel
theorem dL_law_1699 : decode cL_law 1699 = .ok (.iadd, 1) := by decide +kernel
theorem dL_law_1700 : decode cL_law 1700 = .ok (.iaload, 1) := by decide +kernel
theorem dL_law_1701 : decode cL_law 1701 = .ok (.aload_n 3, 1) := by decide +kernel
theorem dL_law_1702 : decode cL_law 1702 = .ok (.invokestatic 244, 3) := by decide +kernel
theorem dL_law_1705 : decode cL_law 1705 = .ok (.istore 6, 2) := by decide +kernel
theorem dL_law_1707 : decode cL_law 1707 = .ok (.aload_n 2, 1) := by decide +kernel
theorem dL_law_1708 : decode cL_law 1708 = .ok (.aload_n 0, 1) := by decide +kernel
theorem dL_law_1709 : decode cL_law 1709 = .ok (.iload 5, 2) := by decide +kernel
theorem dL_law_1711 : decode cL_law 1711 = .ok (.iconst 1, 1) := by decide +kernel
theorem dL_law_1712 : decode cL_law 1712 = .ok (.iadd, 1) := by decide +kernel
theorem dL_law_1713 : decode cL_law 1713 = .ok (.iaload, 1) := by decide +kernel
theorem dL_law_1714 : decode cL_law 1714 = .ok (.invokevirtual 246, 3) := by decide +kernel
theorem dL_law_1717 : decode cL_law 1717 = .ok (.istore 7, 2) := by decide +kernel
theorem dL_law_1719 : decode cL_law 1719 = .ok (.aload_n 2, 1) := by decide +kernel
theorem dL_law_1720 : decode cL_law 1720 = .ok (.invokevirtual 158, 3) := by decide +kernel
theorem dL_law_1723 : decode cL_law 1723 = .ok (.iload 6, 2) := by decide +kernel
theorem dL_law_1725 : decode cL_law 1725 = .ok (.if_icmp .eq 5, 3) := by decide +kernel
theorem dL_law_1728 : decode cL_law 1728 = .ok (.iconst 0, 1) := by decide +kernel
theorem dL_law_1729 : decode cL_law 1729 = .ok (.ireturn, 1) := by decide +kernel
theorem dL_law_1730 : decode cL_law 1730 = .ok (.iload 6, 2) := by decide +kernel
theorem dL_law_1732 : decode cL_law 1732 = .ok (.ifCond .ne 15, 3) := by decide +kernel
theorem dL_law_1735 : decode cL_law 1735 = .ok (.aload_n 3, 1) := by decide +kernel
theorem dL_law_1736 : decode cL_law 1736 = .ok (.iconst 0, 1) := by decide +kernel
theorem dL_law_1737 : decode cL_law 1737 = .ok (.laload, 1) := by decide +kernel
theorem dL_law_1738 : decode cL_law 1738 = .ok (.iload 7, 2) := by decide +kernel
theorem dL_law_1740 : decode cL_law 1740 = .ok (.i2l, 1) := by decide +kernel
theorem dL_law_1741 : decode cL_law 1741 = .ok (.lcmp, 1) := by decide +kernel
theorem dL_law_1742 : decode cL_law 1742 = .ok (.ifCond .eq 5, 3) := by decide +kernel
theorem dL_law_1745 : decode cL_law 1745 = .ok (.iconst 0, 1) := by decide +kernel
theorem dL_law_1746 : decode cL_law 1746 = .ok (.ireturn, 1) := by decide +kernel
theorem dL_law_1747 : decode cL_law 1747 = .ok (.goto 1041, 3) := by decide +kernel
theorem dL_law_1750 : decode cL_law 1750 = .ok (.aload_n 1, 1) := by decide +kernel
theorem dL_law_1751 : decode cL_law 1751 = .ok (.aload_n 0, 1) := by decide +kernel
theorem dL_law_1752 : decode cL_law 1752 = .ok (.iload 5, 2) := by decide +kernel
theorem dL_law_1754 : decode cL_law 1754 = .ok (.iconst 1, 1) := by decide +kernel
theorem dL_law_1755 : decode cL_law 1755 = .ok (.iadd, 1) := by decide +kernel
theorem dL_law_1756 : decode cL_law 1756 = .ok (.iaload, 1) := by decide +kernel
theorem dL_law_1757 : decode cL_law 1757 = .ok (.aload_n 3, 1) := by decide +kernel
theorem dL_law_1758 : decode cL_law 1758 = .ok (.invokestatic 247, 3) := by decide +kernel
theorem dL_law_1761 : decode cL_law 1761 = .ok (.istore 6, 2) := by decide +kernel
theorem dL_law_1763 : decode cL_law 1763 = .ok (.aload_n 2, 1) := by decide +kernel
theorem dL_law_1764 : decode cL_law 1764 = .ok (.aload_n 0, 1) := by decide +kernel
theorem dL_law_1765 : decode cL_law 1765 = .ok (.iload 5, 2) := by decide +kernel
theorem dL_law_1767 : decode cL_law 1767 = .ok (.iconst 1, 1) := by decide +kernel
theorem dL_law_1768 : decode cL_law 1768 = .ok (.iadd, 1) := by decide +kernel
theorem dL_law_1769 : decode cL_law 1769 = .ok (.iaload, 1) := by decide +kernel
theorem dL_law_1770 : decode cL_law 1770 = .ok (.invokevirtual 249, 3) := by decide +kernel
theorem dL_law_1773 : decode cL_law 1773 = .ok (.istore 7, 2) := by decide +kernel
theorem dL_law_1775 : decode cL_law 1775 = .ok (.aload_n 2, 1) := by decide +kernel
theorem dL_law_1776 : decode cL_law 1776 = .ok (.invokevirtual 158, 3) := by decide +kernel
theorem dL_law_1779 : decode cL_law 1779 = .ok (.iload 6, 2) := by decide +kernel
theorem dL_law_1781 : decode cL_law 1781 = .ok (.if_icmp .eq 5, 3) := by decide +kernel
theorem dL_law_1784 : decode cL_law 1784 = .ok (.iconst 0, 1) := by decide +kernel
theorem dL_law_1785 : decode cL_law 1785 = .ok (.ireturn, 1) := by decide +kernel
theorem dL_law_1786 : decode cL_law 1786 = .ok (.iload 6, 2) := by decide +kernel
theorem dL_law_1788 : decode cL_law 1788 = .ok (.ifCond .ne 15, 3) := by decide +kernel
theorem dL_law_1791 : decode cL_law 1791 = .ok (.aload_n 3, 1) := by decide +kernel
theorem dL_law_1792 : decode cL_law 1792 = .ok (.iconst 0, 1) := by decide +kernel
theorem dL_law_1793 : decode cL_law 1793 = .ok (.laload, 1) := by decide +kernel
theorem dL_law_1794 : decode cL_law 1794 = .ok (.iload 7, 2) := by decide +kernel
theorem dL_law_1796 : decode cL_law 1796 = .ok (.i2l, 1) := by decide +kernel
theorem dL_law_1797 : decode cL_law 1797 = .ok (.lcmp, 1) := by decide +kernel
theorem dL_law_1798 : decode cL_law 1798 = .ok (.ifCond .eq 5, 3) := by decide +kernel
theorem dL_law_1801 : decode cL_law 1801 = .ok (.iconst 0, 1) := by decide +kernel
theorem dL_law_1802 : decode cL_law 1802 = .ok (.ireturn, 1) := by decide +kernel
theorem dL_law_1803 : decode cL_law 1803 = .ok (.goto 985, 3) := by decide +kernel
theorem dL_law_1806 : decode cL_law 1806 = .ok (.aload_n 1, 1) := by decide +kernel
theorem dL_law_1807 : decode cL_law 1807 = .ok (.aload_n 0, 1) := by decide +kernel
theorem dL_law_1808 : decode cL_law 1808 = .ok (.iload 5, 2) := by decide +kernel
theorem dL_law_1810 : decode cL_law 1810 = .ok (.iconst 1, 1) := by decide +kernel
theorem dL_law_1811 : decode cL_law 1811 = .ok (.iadd, 1) := by decide +kernel
theorem dL_law_1812 : decode cL_law 1812 = .ok (.iaload, 1) := by decide +kernel
theorem dL_law_1813 : decode cL_law 1813 = .ok (.aload_n 3, 1) := by decide +kernel
theorem dL_law_1814 : decode cL_law 1814 = .ok (.invokestatic 250, 3) := by decide +kernel
theorem dL_law_1817 : decode cL_law 1817 = .ok (.istore 6, 2) := by decide +kernel
theorem dL_law_1819 : decode cL_law 1819 = .ok (.aload_n 2, 1) := by decide +kernel
theorem dL_law_1820 : decode cL_law 1820 = .ok (.aload_n 0, 1) := by decide +kernel
theorem dL_law_1821 : decode cL_law 1821 = .ok (.iload 5, 2) := by decide +kernel
theorem dL_law_1823 : decode cL_law 1823 = .ok (.iconst 1, 1) := by decide +kernel
theorem dL_law_1824 : decode cL_law 1824 = .ok (.iadd, 1) := by decide +kernel
theorem dL_law_1825 : decode cL_law 1825 = .ok (.iaload, 1) := by decide +kernel
theorem dL_law_1826 : decode cL_law 1826 = .ok (.invokevirtual 252, 3) := by decide +kernel
theorem dL_law_1829 : decode cL_law 1829 = .ok (.istore 7, 2) := by decide +kernel
theorem dL_law_1831 : decode cL_law 1831 = .ok (.aload_n 2, 1) := by decide +kernel
theorem dL_law_1832 : decode cL_law 1832 = .ok (.invokevirtual 158, 3) := by decide +kernel
theorem dL_law_1835 : decode cL_law 1835 = .ok (.iload 6, 2) := by decide +kernel
theorem dL_law_1837 : decode cL_law 1837 = .ok (.if_icmp .eq 5, 3) := by decide +kernel
theorem dL_law_1840 : decode cL_law 1840 = .ok (.iconst 0, 1) := by decide +kernel
theorem dL_law_1841 : decode cL_law 1841 = .ok (.ireturn, 1) := by decide +kernel
theorem dL_law_1842 : decode cL_law 1842 = .ok (.iload 6, 2) := by decide +kernel
theorem dL_law_1844 : decode cL_law 1844 = .ok (.ifCond .ne 15, 3) := by decide +kernel
theorem dL_law_1847 : decode cL_law 1847 = .ok (.aload_n 3, 1) := by decide +kernel
theorem dL_law_1848 : decode cL_law 1848 = .ok (.iconst 0, 1) := by decide +kernel
theorem dL_law_1849 : decode cL_law 1849 = .ok (.laload, 1) := by decide +kernel
theorem dL_law_1850 : decode cL_law 1850 = .ok (.iload 7, 2) := by decide +kernel
theorem dL_law_1852 : decode cL_law 1852 = .ok (.i2l, 1) := by decide +kernel
theorem dL_law_1853 : decode cL_law 1853 = .ok (.lcmp, 1) := by decide +kernel
theorem dL_law_1854 : decode cL_law 1854 = .ok (.ifCond .eq 5, 3) := by decide +kernel
theorem dL_law_1857 : decode cL_law 1857 = .ok (.iconst 0, 1) := by decide +kernel
theorem dL_law_1858 : decode cL_law 1858 = .ok (.ireturn, 1) := by decide +kernel
theorem dL_law_1859 : decode cL_law 1859 = .ok (.goto 929, 3) := by decide +kernel
theorem dL_law_1862 : decode cL_law 1862 = .ok (.aload_n 1, 1) := by decide +kernel
theorem dL_law_1863 : decode cL_law 1863 = .ok (.aload_n 0, 1) := by decide +kernel
theorem dL_law_1864 : decode cL_law 1864 = .ok (.iload 5, 2) := by decide +kernel
theorem dL_law_1866 : decode cL_law 1866 = .ok (.iconst 1, 1) := by decide +kernel
theorem dL_law_1867 : decode cL_law 1867 = .ok (.iadd, 1) := by decide +kernel
theorem dL_law_1868 : decode cL_law 1868 = .ok (.iaload, 1) := by decide +kernel
theorem dL_law_1869 : decode cL_law 1869 = .ok (.aload_n 3, 1) := by decide +kernel
theorem dL_law_1870 : decode cL_law 1870 = .ok (.invokestatic 253, 3) := by decide +kernel
theorem dL_law_1873 : decode cL_law 1873 = .ok (.istore 6, 2) := by decide +kernel
theorem dL_law_1875 : decode cL_law 1875 = .ok (.aload_n 2, 1) := by decide +kernel
theorem dL_law_1876 : decode cL_law 1876 = .ok (.aload_n 0, 1) := by decide +kernel
theorem dL_law_1877 : decode cL_law 1877 = .ok (.iload 5, 2) := by decide +kernel
theorem dL_law_1879 : decode cL_law 1879 = .ok (.iconst 1, 1) := by decide +kernel
theorem dL_law_1880 : decode cL_law 1880 = .ok (.iadd, 1) := by decide +kernel
theorem dL_law_1881 : decode cL_law 1881 = .ok (.iaload, 1) := by decide +kernel
theorem dL_law_1882 : decode cL_law 1882 = .ok (.invokevirtual 255, 3) := by decide +kernel
theorem dL_law_1885 : decode cL_law 1885 = .ok (.istore 7, 2) := by decide +kernel
theorem dL_law_1887 : decode cL_law 1887 = .ok (.aload_n 2, 1) := by decide +kernel
theorem dL_law_1888 : decode cL_law 1888 = .ok (.invokevirtual 158, 3) := by decide +kernel
theorem dL_law_1891 : decode cL_law 1891 = .ok (.iload 6, 2) := by decide +kernel
theorem dL_law_1893 : decode cL_law 1893 = .ok (.if_icmp .eq 5, 3) := by decide +kernel
theorem dL_law_1896 : decode cL_law 1896 = .ok (.iconst 0, 1) := by decide +kernel
theorem dL_law_1897 : decode cL_law 1897 = .ok (.ireturn, 1) := by decide +kernel
theorem dL_law_1898 : decode cL_law 1898 = .ok (.iload 6, 2) := by decide +kernel
theorem dL_law_1900 : decode cL_law 1900 = .ok (.ifCond .ne 15, 3) := by decide +kernel
theorem dL_law_1903 : decode cL_law 1903 = .ok (.aload_n 3, 1) := by decide +kernel
theorem dL_law_1904 : decode cL_law 1904 = .ok (.iconst 0, 1) := by decide +kernel
theorem dL_law_1905 : decode cL_law 1905 = .ok (.laload, 1) := by decide +kernel
theorem dL_law_1906 : decode cL_law 1906 = .ok (.iload 7, 2) := by decide +kernel
theorem dL_law_1908 : decode cL_law 1908 = .ok (.i2l, 1) := by decide +kernel
theorem dL_law_1909 : decode cL_law 1909 = .ok (.lcmp, 1) := by decide +kernel
theorem dL_law_1910 : decode cL_law 1910 = .ok (.ifCond .eq 5, 3) := by decide +kernel
theorem dL_law_1913 : decode cL_law 1913 = .ok (.iconst 0, 1) := by decide +kernel
theorem dL_law_1914 : decode cL_law 1914 = .ok (.ireturn, 1) := by decide +kernel
theorem dL_law_1915 : decode cL_law 1915 = .ok (.goto 873, 3) := by decide +kernel
theorem dL_law_1918 : decode cL_law 1918 = .ok (.aload_n 1, 1) := by decide +kernel
theorem dL_law_1919 : decode cL_law 1919 = .ok (.invokevirtual 256, 3) := by decide +kernel
theorem dL_law_1922 : decode cL_law 1922 = .ok (.aload_n 2, 1) := by decide +kernel
theorem dL_law_1923 : decode cL_law 1923 = .ok (.invokevirtual 259, 3) := by decide +kernel
theorem dL_law_1926 : decode cL_law 1926 = .ok (.if_icmp .eq 862, 3) := by decide +kernel
theorem dL_law_1929 : decode cL_law 1929 = .ok (.iconst 0, 1) := by decide +kernel
theorem dL_law_1930 : decode cL_law 1930 = .ok (.ireturn, 1) := by decide +kernel
theorem dL_law_1931 : decode cL_law 1931 = .ok (.aload_n 1, 1) := by decide +kernel
theorem dL_law_1932 : decode cL_law 1932 = .ok (.aload_n 0, 1) := by decide +kernel
theorem dL_law_1933 : decode cL_law 1933 = .ok (.iload 5, 2) := by decide +kernel
theorem dL_law_1935 : decode cL_law 1935 = .ok (.iconst 1, 1) := by decide +kernel
theorem dL_law_1936 : decode cL_law 1936 = .ok (.iadd, 1) := by decide +kernel
theorem dL_law_1937 : decode cL_law 1937 = .ok (.iaload, 1) := by decide +kernel
theorem dL_law_1938 : decode cL_law 1938 = .ok (.aload_n 3, 1) := by decide +kernel
theorem dL_law_1939 : decode cL_law 1939 = .ok (.invokestatic 260, 3) := by decide +kernel
theorem dL_law_1942 : decode cL_law 1942 = .ok (.istore 6, 2) := by decide +kernel
theorem dL_law_1944 : decode cL_law 1944 = .ok (.aload_n 2, 1) := by decide +kernel
theorem dL_law_1945 : decode cL_law 1945 = .ok (.aload_n 0, 1) := by decide +kernel
theorem dL_law_1946 : decode cL_law 1946 = .ok (.iload 5, 2) := by decide +kernel
theorem dL_law_1948 : decode cL_law 1948 = .ok (.iconst 1, 1) := by decide +kernel
theorem dL_law_1949 : decode cL_law 1949 = .ok (.iadd, 1) := by decide +kernel
theorem dL_law_1950 : decode cL_law 1950 = .ok (.iaload, 1) := by decide +kernel
theorem dL_law_1951 : decode cL_law 1951 = .ok (.invokevirtual 262, 3) := by decide +kernel
theorem dL_law_1954 : decode cL_law 1954 = .ok (.istore 7, 2) := by decide +kernel
theorem dL_law_1956 : decode cL_law 1956 = .ok (.aload_n 2, 1) := by decide +kernel
theorem dL_law_1957 : decode cL_law 1957 = .ok (.invokevirtual 158, 3) := by decide +kernel
theorem dL_law_1960 : decode cL_law 1960 = .ok (.iload 6, 2) := by decide +kernel
theorem dL_law_1962 : decode cL_law 1962 = .ok (.if_icmp .eq 5, 3) := by decide +kernel
theorem dL_law_1965 : decode cL_law 1965 = .ok (.iconst 0, 1) := by decide +kernel
theorem dL_law_1966 : decode cL_law 1966 = .ok (.ireturn, 1) := by decide +kernel
theorem dL_law_1967 : decode cL_law 1967 = .ok (.iload 6, 2) := by decide +kernel
theorem dL_law_1969 : decode cL_law 1969 = .ok (.ifCond .ne 15, 3) := by decide +kernel
theorem dL_law_1972 : decode cL_law 1972 = .ok (.aload_n 3, 1) := by decide +kernel
theorem dL_law_1973 : decode cL_law 1973 = .ok (.iconst 0, 1) := by decide +kernel
theorem dL_law_1974 : decode cL_law 1974 = .ok (.laload, 1) := by decide +kernel
theorem dL_law_1975 : decode cL_law 1975 = .ok (.iload 7, 2) := by decide +kernel
theorem dL_law_1977 : decode cL_law 1977 = .ok (.i2l, 1) := by decide +kernel
theorem dL_law_1978 : decode cL_law 1978 = .ok (.lcmp, 1) := by decide +kernel
theorem dL_law_1979 : decode cL_law 1979 = .ok (.ifCond .eq 5, 3) := by decide +kernel
theorem dL_law_1982 : decode cL_law 1982 = .ok (.iconst 0, 1) := by decide +kernel
theorem dL_law_1983 : decode cL_law 1983 = .ok (.ireturn, 1) := by decide +kernel
theorem dL_law_1984 : decode cL_law 1984 = .ok (.goto 804, 3) := by decide +kernel
theorem dL_law_1987 : decode cL_law 1987 = .ok (.aload_n 1, 1) := by decide +kernel
theorem dL_law_1988 : decode cL_law 1988 = .ok (.aload_n 0, 1) := by decide +kernel
theorem dL_law_1989 : decode cL_law 1989 = .ok (.iload 5, 2) := by decide +kernel
theorem dL_law_1991 : decode cL_law 1991 = .ok (.iconst 1, 1) := by decide +kernel
theorem dL_law_1992 : decode cL_law 1992 = .ok (.iadd, 1) := by decide +kernel
theorem dL_law_1993 : decode cL_law 1993 = .ok (.iaload, 1) := by decide +kernel
theorem dL_law_1994 : decode cL_law 1994 = .ok (.aload_n 3, 1) := by decide +kernel
theorem dL_law_1995 : decode cL_law 1995 = .ok (.invokestatic 263, 3) := by decide +kernel
theorem dL_law_1998 : decode cL_law 1998 = .ok (.istore 6, 2) := by decide +kernel
theorem dL_law_2000 : decode cL_law 2000 = .ok (.aload_n 2, 1) := by decide +kernel
theorem dL_law_2001 : decode cL_law 2001 = .ok (.aload_n 0, 1) := by decide +kernel
theorem dL_law_2002 : decode cL_law 2002 = .ok (.iload 5, 2) := by decide +kernel
theorem dL_law_2004 : decode cL_law 2004 = .ok (.iconst 1, 1) := by decide +kernel
theorem dL_law_2005 : decode cL_law 2005 = .ok (.iadd, 1) := by decide +kernel
theorem dL_law_2006 : decode cL_law 2006 = .ok (.iaload, 1) := by decide +kernel
theorem dL_law_2007 : decode cL_law 2007 = .ok (.invokevirtual 265, 3) := by decide +kernel
theorem dL_law_2010 : decode cL_law 2010 = .ok (.istore 7, 2) := by decide +kernel
theorem dL_law_2012 : decode cL_law 2012 = .ok (.aload_n 2, 1) := by decide +kernel
theorem dL_law_2013 : decode cL_law 2013 = .ok (.invokevirtual 158, 3) := by decide +kernel
theorem dL_law_2016 : decode cL_law 2016 = .ok (.iload 6, 2) := by decide +kernel
theorem dL_law_2018 : decode cL_law 2018 = .ok (.if_icmp .eq 5, 3) := by decide +kernel
theorem dL_law_2021 : decode cL_law 2021 = .ok (.iconst 0, 1) := by decide +kernel
theorem dL_law_2022 : decode cL_law 2022 = .ok (.ireturn, 1) := by decide +kernel
theorem dL_law_2023 : decode cL_law 2023 = .ok (.iload 6, 2) := by decide +kernel
theorem dL_law_2025 : decode cL_law 2025 = .ok (.ifCond .ne 15, 3) := by decide +kernel
theorem dL_law_2028 : decode cL_law 2028 = .ok (.aload_n 3, 1) := by decide +kernel
theorem dL_law_2029 : decode cL_law 2029 = .ok (.iconst 0, 1) := by decide +kernel
theorem dL_law_2030 : decode cL_law 2030 = .ok (.laload, 1) := by decide +kernel
theorem dL_law_2031 : decode cL_law 2031 = .ok (.iload 7, 2) := by decide +kernel
theorem dL_law_2033 : decode cL_law 2033 = .ok (.i2l, 1) := by decide +kernel
theorem dL_law_2034 : decode cL_law 2034 = .ok (.lcmp, 1) := by decide +kernel
theorem dL_law_2035 : decode cL_law 2035 = .ok (.ifCond .eq 5, 3) := by decide +kernel
theorem dL_law_2038 : decode cL_law 2038 = .ok (.iconst 0, 1) := by decide +kernel
theorem dL_law_2039 : decode cL_law 2039 = .ok (.ireturn, 1) := by decide +kernel
theorem dL_law_2040 : decode cL_law 2040 = .ok (.goto 748, 3) := by decide +kernel
theorem dL_law_2043 : decode cL_law 2043 = .ok (.aload_n 1, 1) := by decide +kernel
theorem dL_law_2044 : decode cL_law 2044 = .ok (.aload_n 0, 1) := by decide +kernel
theorem dL_law_2045 : decode cL_law 2045 = .ok (.iload 5, 2) := by decide +kernel
theorem dL_law_2047 : decode cL_law 2047 = .ok (.iconst 1, 1) := by decide +kernel
theorem dL_law_2048 : decode cL_law 2048 = .ok (.iadd, 1) := by decide +kernel
theorem dL_law_2049 : decode cL_law 2049 = .ok (.iaload, 1) := by decide +kernel
theorem dL_law_2050 : decode cL_law 2050 = .ok (.aload_n 3, 1) := by decide +kernel
theorem dL_law_2051 : decode cL_law 2051 = .ok (.invokestatic 266, 3) := by decide +kernel
theorem dL_law_2054 : decode cL_law 2054 = .ok (.istore 6, 2) := by decide +kernel
theorem dL_law_2056 : decode cL_law 2056 = .ok (.aload_n 2, 1) := by decide +kernel
theorem dL_law_2057 : decode cL_law 2057 = .ok (.aload_n 0, 1) := by decide +kernel
theorem dL_law_2058 : decode cL_law 2058 = .ok (.iload 5, 2) := by decide +kernel
theorem dL_law_2060 : decode cL_law 2060 = .ok (.iconst 1, 1) := by decide +kernel
theorem dL_law_2061 : decode cL_law 2061 = .ok (.iadd, 1) := by decide +kernel
theorem dL_law_2062 : decode cL_law 2062 = .ok (.iaload, 1) := by decide +kernel
theorem dL_law_2063 : decode cL_law 2063 = .ok (.invokevirtual 268, 3) := by decide +kernel
theorem dL_law_2066 : decode cL_law 2066 = .ok (.istore 7, 2) := by decide +kernel
theorem dL_law_2068 : decode cL_law 2068 = .ok (.aload_n 2, 1) := by decide +kernel
theorem dL_law_2069 : decode cL_law 2069 = .ok (.invokevirtual 158, 3) := by decide +kernel
theorem dL_law_2072 : decode cL_law 2072 = .ok (.iload 6, 2) := by decide +kernel
theorem dL_law_2074 : decode cL_law 2074 = .ok (.if_icmp .eq 5, 3) := by decide +kernel
theorem dL_law_2077 : decode cL_law 2077 = .ok (.iconst 0, 1) := by decide +kernel
theorem dL_law_2078 : decode cL_law 2078 = .ok (.ireturn, 1) := by decide +kernel
theorem dL_law_2079 : decode cL_law 2079 = .ok (.iload 6, 2) := by decide +kernel
theorem dL_law_2081 : decode cL_law 2081 = .ok (.ifCond .ne 15, 3) := by decide +kernel
theorem dL_law_2084 : decode cL_law 2084 = .ok (.aload_n 3, 1) := by decide +kernel
theorem dL_law_2085 : decode cL_law 2085 = .ok (.iconst 0, 1) := by decide +kernel
theorem dL_law_2086 : decode cL_law 2086 = .ok (.laload, 1) := by decide +kernel
theorem dL_law_2087 : decode cL_law 2087 = .ok (.iload 7, 2) := by decide +kernel
theorem dL_law_2089 : decode cL_law 2089 = .ok (.i2l, 1) := by decide +kernel
theorem dL_law_2090 : decode cL_law 2090 = .ok (.lcmp, 1) := by decide +kernel
theorem dL_law_2091 : decode cL_law 2091 = .ok (.ifCond .eq 5, 3) := by decide +kernel
theorem dL_law_2094 : decode cL_law 2094 = .ok (.iconst 0, 1) := by decide +kernel
theorem dL_law_2095 : decode cL_law 2095 = .ok (.ireturn, 1) := by decide +kernel
theorem dL_law_2096 : decode cL_law 2096 = .ok (.goto 692, 3) := by decide +kernel
theorem dL_law_2099 : decode cL_law 2099 = .ok (.aload_n 1, 1) := by decide +kernel
theorem dL_law_2100 : decode cL_law 2100 = .ok (.aload_n 0, 1) := by decide +kernel
theorem dL_law_2101 : decode cL_law 2101 = .ok (.iload 5, 2) := by decide +kernel
theorem dL_law_2103 : decode cL_law 2103 = .ok (.iconst 1, 1) := by decide +kernel
theorem dL_law_2104 : decode cL_law 2104 = .ok (.iadd, 1) := by decide +kernel
theorem dL_law_2105 : decode cL_law 2105 = .ok (.iaload, 1) := by decide +kernel
theorem dL_law_2106 : decode cL_law 2106 = .ok (.aload_n 3, 1) := by decide +kernel
theorem dL_law_2107 : decode cL_law 2107 = .ok (.invokestatic 269, 3) := by decide +kernel
theorem dL_law_2110 : decode cL_law 2110 = .ok (.istore 6, 2) := by decide +kernel
theorem dL_law_2112 : decode cL_law 2112 = .ok (.aload_n 2, 1) := by decide +kernel
theorem dL_law_2113 : decode cL_law 2113 = .ok (.aload_n 0, 1) := by decide +kernel
theorem dL_law_2114 : decode cL_law 2114 = .ok (.iload 5, 2) := by decide +kernel
theorem dL_law_2116 : decode cL_law 2116 = .ok (.iconst 1, 1) := by decide +kernel
theorem dL_law_2117 : decode cL_law 2117 = .ok (.iadd, 1) := by decide +kernel
theorem dL_law_2118 : decode cL_law 2118 = .ok (.iaload, 1) := by decide +kernel
theorem dL_law_2119 : decode cL_law 2119 = .ok (.invokevirtual 271, 3) := by decide +kernel
theorem dL_law_2122 : decode cL_law 2122 = .ok (.istore 7, 2) := by decide +kernel
theorem dL_law_2124 : decode cL_law 2124 = .ok (.aload_n 2, 1) := by decide +kernel
theorem dL_law_2125 : decode cL_law 2125 = .ok (.invokevirtual 158, 3) := by decide +kernel
theorem dL_law_2128 : decode cL_law 2128 = .ok (.iload 6, 2) := by decide +kernel
theorem dL_law_2130 : decode cL_law 2130 = .ok (.if_icmp .eq 5, 3) := by decide +kernel
theorem dL_law_2133 : decode cL_law 2133 = .ok (.iconst 0, 1) := by decide +kernel
theorem dL_law_2134 : decode cL_law 2134 = .ok (.ireturn, 1) := by decide +kernel
theorem dL_law_2135 : decode cL_law 2135 = .ok (.iload 6, 2) := by decide +kernel
theorem dL_law_2137 : decode cL_law 2137 = .ok (.ifCond .ne 15, 3) := by decide +kernel
theorem dL_law_2140 : decode cL_law 2140 = .ok (.aload_n 3, 1) := by decide +kernel
theorem dL_law_2141 : decode cL_law 2141 = .ok (.iconst 0, 1) := by decide +kernel
theorem dL_law_2142 : decode cL_law 2142 = .ok (.laload, 1) := by decide +kernel
theorem dL_law_2143 : decode cL_law 2143 = .ok (.iload 7, 2) := by decide +kernel
theorem dL_law_2145 : decode cL_law 2145 = .ok (.i2l, 1) := by decide +kernel
theorem dL_law_2146 : decode cL_law 2146 = .ok (.lcmp, 1) := by decide +kernel
theorem dL_law_2147 : decode cL_law 2147 = .ok (.ifCond .eq 5, 3) := by decide +kernel
theorem dL_law_2150 : decode cL_law 2150 = .ok (.iconst 0, 1) := by decide +kernel
theorem dL_law_2151 : decode cL_law 2151 = .ok (.ireturn, 1) := by decide +kernel
theorem dL_law_2152 : decode cL_law 2152 = .ok (.goto 636, 3) := by decide +kernel
theorem dL_law_2155 : decode cL_law 2155 = .ok (.aload_n 1, 1) := by decide +kernel
theorem dL_law_2156 : decode cL_law 2156 = .ok (.aload_n 0, 1) := by decide +kernel
theorem dL_law_2157 : decode cL_law 2157 = .ok (.iload 5, 2) := by decide +kernel
theorem dL_law_2159 : decode cL_law 2159 = .ok (.iconst 1, 1) := by decide +kernel
theorem dL_law_2160 : decode cL_law 2160 = .ok (.iadd, 1) := by decide +kernel
theorem dL_law_2161 : decode cL_law 2161 = .ok (.iaload, 1) := by decide +kernel
theorem dL_law_2162 : decode cL_law 2162 = .ok (.aload_n 3, 1) := by decide +kernel
theorem dL_law_2163 : decode cL_law 2163 = .ok (.invokestatic 272, 3) := by decide +kernel
theorem dL_law_2166 : decode cL_law 2166 = .ok (.istore 6, 2) := by decide +kernel
theorem dL_law_2168 : decode cL_law 2168 = .ok (.aload_n 2, 1) := by decide +kernel
theorem dL_law_2169 : decode cL_law 2169 = .ok (.aload_n 0, 1) := by decide +kernel
theorem dL_law_2170 : decode cL_law 2170 = .ok (.iload 5, 2) := by decide +kernel
theorem dL_law_2172 : decode cL_law 2172 = .ok (.iconst 1, 1) := by decide +kernel
theorem dL_law_2173 : decode cL_law 2173 = .ok (.iadd, 1) := by decide +kernel
theorem dL_law_2174 : decode cL_law 2174 = .ok (.iaload, 1) := by decide +kernel
theorem dL_law_2175 : decode cL_law 2175 = .ok (.invokevirtual 274, 3) := by decide +kernel
theorem dL_law_2178 : decode cL_law 2178 = .ok (.istore 7, 2) := by decide +kernel
theorem dL_law_2180 : decode cL_law 2180 = .ok (.aload_n 2, 1) := by decide +kernel
theorem dL_law_2181 : decode cL_law 2181 = .ok (.invokevirtual 158, 3) := by decide +kernel
theorem dL_law_2184 : decode cL_law 2184 = .ok (.iload 6, 2) := by decide +kernel
theorem dL_law_2186 : decode cL_law 2186 = .ok (.if_icmp .eq 5, 3) := by decide +kernel
theorem dL_law_2189 : decode cL_law 2189 = .ok (.iconst 0, 1) := by decide +kernel
theorem dL_law_2190 : decode cL_law 2190 = .ok (.ireturn, 1) := by decide +kernel
theorem dL_law_2191 : decode cL_law 2191 = .ok (.iload 6, 2) := by decide +kernel
theorem dL_law_2193 : decode cL_law 2193 = .ok (.ifCond .ne 15, 3) := by decide +kernel
theorem dL_law_2196 : decode cL_law 2196 = .ok (.aload_n 3, 1) := by decide +kernel
theorem dL_law_2197 : decode cL_law 2197 = .ok (.iconst 0, 1) := by decide +kernel
theorem dL_law_2198 : decode cL_law 2198 = .ok (.laload, 1) := by decide +kernel
theorem dL_law_2199 : decode cL_law 2199 = .ok (.iload 7, 2) := by decide +kernel
theorem dL_law_2201 : decode cL_law 2201 = .ok (.i2l, 1) := by decide +kernel
theorem dL_law_2202 : decode cL_law 2202 = .ok (.lcmp, 1) := by decide +kernel
theorem dL_law_2203 : decode cL_law 2203 = .ok (.ifCond .eq 5, 3) := by decide +kernel
theorem dL_law_2206 : decode cL_law 2206 = .ok (.iconst 0, 1) := by decide +kernel
theorem dL_law_2207 : decode cL_law 2207 = .ok (.ireturn, 1) := by decide +kernel
theorem dL_law_2208 : decode cL_law 2208 = .ok (.goto 580, 3) := by decide +kernel
theorem dL_law_2211 : decode cL_law 2211 = .ok (.aload_n 1, 1) := by decide +kernel
theorem dL_law_2212 : decode cL_law 2212 = .ok (.aload_n 0, 1) := by decide +kernel
theorem dL_law_2213 : decode cL_law 2213 = .ok (.iload 5, 2) := by decide +kernel
theorem dL_law_2215 : decode cL_law 2215 = .ok (.iconst 1, 1) := by decide +kernel
theorem dL_law_2216 : decode cL_law 2216 = .ok (.iadd, 1) := by decide +kernel
theorem dL_law_2217 : decode cL_law 2217 = .ok (.iaload, 1) := by decide +kernel
theorem dL_law_2218 : decode cL_law 2218 = .ok (.aload_n 3, 1) := by decide +kernel
theorem dL_law_2219 : decode cL_law 2219 = .ok (.invokestatic 275, 3) := by decide +kernel
theorem dL_law_2222 : decode cL_law 2222 = .ok (.istore 6, 2) := by decide +kernel
theorem dL_law_2224 : decode cL_law 2224 = .ok (.aload_n 2, 1) := by decide +kernel
theorem dL_law_2225 : decode cL_law 2225 = .ok (.aload_n 0, 1) := by decide +kernel
theorem dL_law_2226 : decode cL_law 2226 = .ok (.iload 5, 2) := by decide +kernel
theorem dL_law_2228 : decode cL_law 2228 = .ok (.iconst 1, 1) := by decide +kernel
theorem dL_law_2229 : decode cL_law 2229 = .ok (.iadd, 1) := by decide +kernel
theorem dL_law_2230 : decode cL_law 2230 = .ok (.iaload, 1) := by decide +kernel
theorem dL_law_2231 : decode cL_law 2231 = .ok (.invokevirtual 277, 3) := by decide +kernel
theorem dL_law_2234 : decode cL_law 2234 = .ok (.istore 7, 2) := by decide +kernel
theorem dL_law_2236 : decode cL_law 2236 = .ok (.aload_n 2, 1) := by decide +kernel
theorem dL_law_2237 : decode cL_law 2237 = .ok (.invokevirtual 158, 3) := by decide +kernel
theorem dL_law_2240 : decode cL_law 2240 = .ok (.iload 6, 2) := by decide +kernel
theorem dL_law_2242 : decode cL_law 2242 = .ok (.if_icmp .eq 5, 3) := by decide +kernel
theorem dL_law_2245 : decode cL_law 2245 = .ok (.iconst 0, 1) := by decide +kernel
theorem dL_law_2246 : decode cL_law 2246 = .ok (.ireturn, 1) := by decide +kernel
theorem dL_law_2247 : decode cL_law 2247 = .ok (.iload 6, 2) := by decide +kernel
theorem dL_law_2249 : decode cL_law 2249 = .ok (.ifCond .ne 15, 3) := by decide +kernel
theorem dL_law_2252 : decode cL_law 2252 = .ok (.aload_n 3, 1) := by decide +kernel
theorem dL_law_2253 : decode cL_law 2253 = .ok (.iconst 0, 1) := by decide +kernel
theorem dL_law_2254 : decode cL_law 2254 = .ok (.laload, 1) := by decide +kernel
theorem dL_law_2255 : decode cL_law 2255 = .ok (.iload 7, 2) := by decide +kernel
theorem dL_law_2257 : decode cL_law 2257 = .ok (.i2l, 1) := by decide +kernel
theorem dL_law_2258 : decode cL_law 2258 = .ok (.lcmp, 1) := by decide +kernel
theorem dL_law_2259 : decode cL_law 2259 = .ok (.ifCond .eq 5, 3) := by decide +kernel
theorem dL_law_2262 : decode cL_law 2262 = .ok (.iconst 0, 1) := by decide +kernel
theorem dL_law_2263 : decode cL_law 2263 = .ok (.ireturn, 1) := by decide +kernel
theorem dL_law_2264 : decode cL_law 2264 = .ok (.goto 524, 3) := by decide +kernel
theorem dL_law_2267 : decode cL_law 2267 = .ok (.aload_n 1, 1) := by decide +kernel
theorem dL_law_2268 : decode cL_law 2268 = .ok (.aload_n 0, 1) := by decide +kernel
theorem dL_law_2269 : decode cL_law 2269 = .ok (.iload 5, 2) := by decide +kernel
theorem dL_law_2271 : decode cL_law 2271 = .ok (.iconst 1, 1) := by decide +kernel
theorem dL_law_2272 : decode cL_law 2272 = .ok (.iadd, 1) := by decide +kernel
theorem dL_law_2273 : decode cL_law 2273 = .ok (.iaload, 1) := by decide +kernel
theorem dL_law_2274 : decode cL_law 2274 = .ok (.aload_n 3, 1) := by decide +kernel
theorem dL_law_2275 : decode cL_law 2275 = .ok (.invokestatic 278, 3) := by decide +kernel
theorem dL_law_2278 : decode cL_law 2278 = .ok (.istore 6, 2) := by decide +kernel
theorem dL_law_2280 : decode cL_law 2280 = .ok (.aload_n 2, 1) := by decide +kernel
theorem dL_law_2281 : decode cL_law 2281 = .ok (.aload_n 0, 1) := by decide +kernel
theorem dL_law_2282 : decode cL_law 2282 = .ok (.iload 5, 2) := by decide +kernel
theorem dL_law_2284 : decode cL_law 2284 = .ok (.iconst 1, 1) := by decide +kernel
theorem dL_law_2285 : decode cL_law 2285 = .ok (.iadd, 1) := by decide +kernel
theorem dL_law_2286 : decode cL_law 2286 = .ok (.iaload, 1) := by decide +kernel
theorem dL_law_2287 : decode cL_law 2287 = .ok (.invokevirtual 280, 3) := by decide +kernel
theorem dL_law_2290 : decode cL_law 2290 = .ok (.istore 7, 2) := by decide +kernel
theorem dL_law_2292 : decode cL_law 2292 = .ok (.aload_n 2, 1) := by decide +kernel
theorem dL_law_2293 : decode cL_law 2293 = .ok (.invokevirtual 158, 3) := by decide +kernel
theorem dL_law_2296 : decode cL_law 2296 = .ok (.iload 6, 2) := by decide +kernel
theorem dL_law_2298 : decode cL_law 2298 = .ok (.if_icmp .eq 5, 3) := by decide +kernel
theorem dL_law_2301 : decode cL_law 2301 = .ok (.iconst 0, 1) := by decide +kernel
theorem dL_law_2302 : decode cL_law 2302 = .ok (.ireturn, 1) := by decide +kernel
theorem dL_law_2303 : decode cL_law 2303 = .ok (.iload 6, 2) := by decide +kernel
theorem dL_law_2305 : decode cL_law 2305 = .ok (.ifCond .ne 15, 3) := by decide +kernel
theorem dL_law_2308 : decode cL_law 2308 = .ok (.aload_n 3, 1) := by decide +kernel
theorem dL_law_2309 : decode cL_law 2309 = .ok (.iconst 0, 1) := by decide +kernel
theorem dL_law_2310 : decode cL_law 2310 = .ok (.laload, 1) := by decide +kernel
theorem dL_law_2311 : decode cL_law 2311 = .ok (.iload 7, 2) := by decide +kernel
theorem dL_law_2313 : decode cL_law 2313 = .ok (.i2l, 1) := by decide +kernel
theorem dL_law_2314 : decode cL_law 2314 = .ok (.lcmp, 1) := by decide +kernel
theorem dL_law_2315 : decode cL_law 2315 = .ok (.ifCond .eq 5, 3) := by decide +kernel
theorem dL_law_2318 : decode cL_law 2318 = .ok (.iconst 0, 1) := by decide +kernel
theorem dL_law_2319 : decode cL_law 2319 = .ok (.ireturn, 1) := by decide +kernel
theorem dL_law_2320 : decode cL_law 2320 = .ok (.goto 468, 3) := by decide +kernel
theorem dL_law_2323 : decode cL_law 2323 = .ok (.aload_n 1, 1) := by decide +kernel
theorem dL_law_2324 : decode cL_law 2324 = .ok (.invokevirtual 281, 3) := by decide +kernel
theorem dL_law_2327 : decode cL_law 2327 = .ok (.aload_n 2, 1) := by decide +kernel
theorem dL_law_2328 : decode cL_law 2328 = .ok (.invokevirtual 284, 3) := by decide +kernel
theorem dL_law_2331 : decode cL_law 2331 = .ok (.if_icmp .eq 457, 3) := by decide +kernel
theorem dL_law_2334 : decode cL_law 2334 = .ok (.iconst 0, 1) := by decide +kernel
theorem dL_law_2335 : decode cL_law 2335 = .ok (.ireturn, 1) := by decide +kernel
theorem dL_law_2336 : decode cL_law 2336 = .ok (.aload_n 1, 1) := by decide +kernel
theorem dL_law_2337 : decode cL_law 2337 = .ok (.aload_n 0, 1) := by decide +kernel
theorem dL_law_2338 : decode cL_law 2338 = .ok (.iload 5, 2) := by decide +kernel
theorem dL_law_2340 : decode cL_law 2340 = .ok (.iconst 1, 1) := by decide +kernel
theorem dL_law_2341 : decode cL_law 2341 = .ok (.iadd, 1) := by decide +kernel
theorem dL_law_2342 : decode cL_law 2342 = .ok (.iaload, 1) := by decide +kernel
theorem dL_law_2343 : decode cL_law 2343 = .ok (.aload_n 3, 1) := by decide +kernel
theorem dL_law_2344 : decode cL_law 2344 = .ok (.invokestatic 285, 3) := by decide +kernel
theorem dL_law_2347 : decode cL_law 2347 = .ok (.istore 6, 2) := by decide +kernel
theorem dL_law_2349 : decode cL_law 2349 = .ok (.aload_n 2, 1) := by decide +kernel
theorem dL_law_2350 : decode cL_law 2350 = .ok (.aload_n 0, 1) := by decide +kernel
theorem dL_law_2351 : decode cL_law 2351 = .ok (.iload 5, 2) := by decide +kernel
theorem dL_law_2353 : decode cL_law 2353 = .ok (.iconst 1, 1) := by decide +kernel
theorem dL_law_2354 : decode cL_law 2354 = .ok (.iadd, 1) := by decide +kernel
theorem dL_law_2355 : decode cL_law 2355 = .ok (.iaload, 1) := by decide +kernel
theorem dL_law_2356 : decode cL_law 2356 = .ok (.invokevirtual 287, 3) := by decide +kernel
theorem dL_law_2359 : decode cL_law 2359 = .ok (.istore 7, 2) := by decide +kernel
theorem dL_law_2361 : decode cL_law 2361 = .ok (.aload_n 2, 1) := by decide +kernel
theorem dL_law_2362 : decode cL_law 2362 = .ok (.invokevirtual 158, 3) := by decide +kernel
theorem dL_law_2365 : decode cL_law 2365 = .ok (.iload 6, 2) := by decide +kernel
theorem dL_law_2367 : decode cL_law 2367 = .ok (.if_icmp .eq 5, 3) := by decide +kernel
theorem dL_law_2370 : decode cL_law 2370 = .ok (.iconst 0, 1) := by decide +kernel
theorem dL_law_2371 : decode cL_law 2371 = .ok (.ireturn, 1) := by decide +kernel
theorem dL_law_2372 : decode cL_law 2372 = .ok (.iload 6, 2) := by decide +kernel
theorem dL_law_2374 : decode cL_law 2374 = .ok (.ifCond .ne 15, 3) := by decide +kernel
theorem dL_law_2377 : decode cL_law 2377 = .ok (.aload_n 3, 1) := by decide +kernel
theorem dL_law_2378 : decode cL_law 2378 = .ok (.iconst 0, 1) := by decide +kernel
theorem dL_law_2379 : decode cL_law 2379 = .ok (.laload, 1) := by decide +kernel
theorem dL_law_2380 : decode cL_law 2380 = .ok (.iload 7, 2) := by decide +kernel
theorem dL_law_2382 : decode cL_law 2382 = .ok (.i2l, 1) := by decide +kernel
theorem dL_law_2383 : decode cL_law 2383 = .ok (.lcmp, 1) := by decide +kernel
theorem dL_law_2384 : decode cL_law 2384 = .ok (.ifCond .eq 5, 3) := by decide +kernel
theorem dL_law_2387 : decode cL_law 2387 = .ok (.iconst 0, 1) := by decide +kernel
theorem dL_law_2388 : decode cL_law 2388 = .ok (.ireturn, 1) := by decide +kernel
theorem dL_law_2389 : decode cL_law 2389 = .ok (.goto 399, 3) := by decide +kernel
theorem dL_law_2392 : decode cL_law 2392 = .ok (.aload_n 1, 1) := by decide +kernel
theorem dL_law_2393 : decode cL_law 2393 = .ok (.aload_n 0, 1) := by decide +kernel
theorem dL_law_2394 : decode cL_law 2394 = .ok (.iload 5, 2) := by decide +kernel
theorem dL_law_2396 : decode cL_law 2396 = .ok (.iconst 1, 1) := by decide +kernel
theorem dL_law_2397 : decode cL_law 2397 = .ok (.iadd, 1) := by decide +kernel
theorem dL_law_2398 : decode cL_law 2398 = .ok (.iaload, 1) := by decide +kernel
theorem dL_law_2399 : decode cL_law 2399 = .ok (.aload_n 3, 1) := by decide +kernel
theorem dL_law_2400 : decode cL_law 2400 = .ok (.invokestatic 288, 3) := by decide +kernel
theorem dL_law_2403 : decode cL_law 2403 = .ok (.istore 6, 2) := by decide +kernel
theorem dL_law_2405 : decode cL_law 2405 = .ok (.aload_n 2, 1) := by decide +kernel
theorem dL_law_2406 : decode cL_law 2406 = .ok (.aload_n 0, 1) := by decide +kernel
theorem dL_law_2407 : decode cL_law 2407 = .ok (.iload 5, 2) := by decide +kernel
theorem dL_law_2409 : decode cL_law 2409 = .ok (.iconst 1, 1) := by decide +kernel
theorem dL_law_2410 : decode cL_law 2410 = .ok (.iadd, 1) := by decide +kernel
theorem dL_law_2411 : decode cL_law 2411 = .ok (.iaload, 1) := by decide +kernel
theorem dL_law_2412 : decode cL_law 2412 = .ok (.invokevirtual 290, 3) := by decide +kernel
theorem dL_law_2415 : decode cL_law 2415 = .ok (.istore 7, 2) := by decide +kernel
theorem dL_law_2417 : decode cL_law 2417 = .ok (.aload_n 2, 1) := by decide +kernel
theorem dL_law_2418 : decode cL_law 2418 = .ok (.invokevirtual 158, 3) := by decide +kernel
theorem dL_law_2421 : decode cL_law 2421 = .ok (.iload 6, 2) := by decide +kernel
theorem dL_law_2423 : decode cL_law 2423 = .ok (.if_icmp .eq 5, 3) := by decide +kernel
theorem dL_law_2426 : decode cL_law 2426 = .ok (.iconst 0, 1) := by decide +kernel
theorem dL_law_2427 : decode cL_law 2427 = .ok (.ireturn, 1) := by decide +kernel
theorem dL_law_2428 : decode cL_law 2428 = .ok (.iload 6, 2) := by decide +kernel
theorem dL_law_2430 : decode cL_law 2430 = .ok (.ifCond .ne 15, 3) := by decide +kernel
theorem dL_law_2433 : decode cL_law 2433 = .ok (.aload_n 3, 1) := by decide +kernel
theorem dL_law_2434 : decode cL_law 2434 = .ok (.iconst 0, 1) := by decide +kernel
theorem dL_law_2435 : decode cL_law 2435 = .ok (.laload, 1) := by decide +kernel
theorem dL_law_2436 : decode cL_law 2436 = .ok (.iload 7, 2) := by decide +kernel
theorem dL_law_2438 : decode cL_law 2438 = .ok (.i2l, 1) := by decide +kernel
theorem dL_law_2439 : decode cL_law 2439 = .ok (.lcmp, 1) := by decide +kernel
theorem dL_law_2440 : decode cL_law 2440 = .ok (.ifCond .eq 5, 3) := by decide +kernel
theorem dL_law_2443 : decode cL_law 2443 = .ok (.iconst 0, 1) := by decide +kernel
theorem dL_law_2444 : decode cL_law 2444 = .ok (.ireturn, 1) := by decide +kernel
theorem dL_law_2445 : decode cL_law 2445 = .ok (.goto 343, 3) := by decide +kernel
theorem dL_law_2448 : decode cL_law 2448 = .ok (.aload_n 1, 1) := by decide +kernel
theorem dL_law_2449 : decode cL_law 2449 = .ok (.aload_n 3, 1) := by decide +kernel
theorem dL_law_2450 : decode cL_law 2450 = .ok (.invokestatic 291, 3) := by decide +kernel
theorem dL_law_2453 : decode cL_law 2453 = .ok (.istore 6, 2) := by decide +kernel
theorem dL_law_2455 : decode cL_law 2455 = .ok (.aload_n 2, 1) := by decide +kernel
theorem dL_law_2456 : decode cL_law 2456 = .ok (.invokevirtual 294, 3) := by decide +kernel
theorem dL_law_2459 : decode cL_law 2459 = .ok (.istore 7, 2) := by decide +kernel
theorem dL_law_2461 : decode cL_law 2461 = .ok (.aload_n 2, 1) := by decide +kernel
theorem dL_law_2462 : decode cL_law 2462 = .ok (.invokevirtual 158, 3) := by decide +kernel
theorem dL_law_2465 : decode cL_law 2465 = .ok (.iload 6, 2) := by decide +kernel
theorem dL_law_2467 : decode cL_law 2467 = .ok (.if_icmp .eq 5, 3) := by decide +kernel
theorem dL_law_2470 : decode cL_law 2470 = .ok (.iconst 0, 1) := by decide +kernel
theorem dL_law_2471 : decode cL_law 2471 = .ok (.ireturn, 1) := by decide +kernel
theorem dL_law_2472 : decode cL_law 2472 = .ok (.iload 6, 2) := by decide +kernel
theorem dL_law_2474 : decode cL_law 2474 = .ok (.ifCond .ne 15, 3) := by decide +kernel
theorem dL_law_2477 : decode cL_law 2477 = .ok (.aload_n 3, 1) := by decide +kernel
theorem dL_law_2478 : decode cL_law 2478 = .ok (.iconst 0, 1) := by decide +kernel
theorem dL_law_2479 : decode cL_law 2479 = .ok (.laload, 1) := by decide +kernel
theorem dL_law_2480 : decode cL_law 2480 = .ok (.iload 7, 2) := by decide +kernel
theorem dL_law_2482 : decode cL_law 2482 = .ok (.i2l, 1) := by decide +kernel
theorem dL_law_2483 : decode cL_law 2483 = .ok (.lcmp, 1) := by decide +kernel
theorem dL_law_2484 : decode cL_law 2484 = .ok (.ifCond .eq 5, 3) := by decide +kernel
theorem dL_law_2487 : decode cL_law 2487 = .ok (.iconst 0, 1) := by decide +kernel
theorem dL_law_2488 : decode cL_law 2488 = .ok (.ireturn, 1) := by decide +kernel
theorem dL_law_2489 : decode cL_law 2489 = .ok (.goto 299, 3) := by decide +kernel
theorem dL_law_2492 : decode cL_law 2492 = .ok (.aload_n 1, 1) := by decide +kernel
theorem dL_law_2493 : decode cL_law 2493 = .ok (.invokevirtual 295, 3) := by decide +kernel
theorem dL_law_2496 : decode cL_law 2496 = .ok (.aload_n 2, 1) := by decide +kernel
theorem dL_law_2497 : decode cL_law 2497 = .ok (.invokevirtual 298, 3) := by decide +kernel
theorem dL_law_2500 : decode cL_law 2500 = .ok (.if_icmp .eq 288, 3) := by decide +kernel
theorem dL_law_2503 : decode cL_law 2503 = .ok (.iconst 0, 1) := by decide +kernel
theorem dL_law_2504 : decode cL_law 2504 = .ok (.ireturn, 1) := by decide +kernel
theorem dL_law_2505 : decode cL_law 2505 = .ok (.aload_n 1, 1) := by decide +kernel
theorem dL_law_2506 : decode cL_law 2506 = .ok (.invokevirtual 299, 3) := by decide +kernel
theorem dL_law_2509 : decode cL_law 2509 = .ok (.aload_n 2, 1) := by decide +kernel
theorem dL_law_2510 : decode cL_law 2510 = .ok (.invokevirtual 302, 3) := by decide +kernel
theorem dL_law_2513 : decode cL_law 2513 = .ok (.if_icmp .eq 275, 3) := by decide +kernel
theorem dL_law_2516 : decode cL_law 2516 = .ok (.iconst 0, 1) := by decide +kernel
theorem dL_law_2517 : decode cL_law 2517 = .ok (.ireturn, 1) := by decide +kernel
theorem dL_law_2518 : decode cL_law 2518 = .ok (.aload_n 1, 1) := by decide +kernel
theorem dL_law_2519 : decode cL_law 2519 = .ok (.aload_n 3, 1) := by decide +kernel
theorem dL_law_2520 : decode cL_law 2520 = .ok (.invokestatic 303, 3) := by decide +kernel
theorem dL_law_2523 : decode cL_law 2523 = .ok (.istore 6, 2) := by decide +kernel
theorem dL_law_2525 : decode cL_law 2525 = .ok (.aload_n 2, 1) := by decide +kernel
theorem dL_law_2526 : decode cL_law 2526 = .ok (.invokevirtual 305, 3) := by decide +kernel
theorem dL_law_2529 : decode cL_law 2529 = .ok (.istore 7, 2) := by decide +kernel
theorem dL_law_2531 : decode cL_law 2531 = .ok (.aload_n 2, 1) := by decide +kernel
theorem dL_law_2532 : decode cL_law 2532 = .ok (.invokevirtual 158, 3) := by decide +kernel
theorem dL_law_2535 : decode cL_law 2535 = .ok (.iload 6, 2) := by decide +kernel
theorem dL_law_2537 : decode cL_law 2537 = .ok (.if_icmp .eq 5, 3) := by decide +kernel
theorem dL_law_2540 : decode cL_law 2540 = .ok (.iconst 0, 1) := by decide +kernel
theorem dL_law_2541 : decode cL_law 2541 = .ok (.ireturn, 1) := by decide +kernel
theorem dL_law_2542 : decode cL_law 2542 = .ok (.iload 6, 2) := by decide +kernel
theorem dL_law_2544 : decode cL_law 2544 = .ok (.ifCond .ne 15, 3) := by decide +kernel
theorem dL_law_2547 : decode cL_law 2547 = .ok (.aload_n 3, 1) := by decide +kernel
theorem dL_law_2548 : decode cL_law 2548 = .ok (.iconst 0, 1) := by decide +kernel
theorem dL_law_2549 : decode cL_law 2549 = .ok (.laload, 1) := by decide +kernel
theorem dL_law_2550 : decode cL_law 2550 = .ok (.iload 7, 2) := by decide +kernel
theorem dL_law_2552 : decode cL_law 2552 = .ok (.i2l, 1) := by decide +kernel
theorem dL_law_2553 : decode cL_law 2553 = .ok (.lcmp, 1) := by decide +kernel
theorem dL_law_2554 : decode cL_law 2554 = .ok (.ifCond .eq 5, 3) := by decide +kernel
theorem dL_law_2557 : decode cL_law 2557 = .ok (.iconst 0, 1) := by decide +kernel
theorem dL_law_2558 : decode cL_law 2558 = .ok (.ireturn, 1) := by decide +kernel
theorem dL_law_2559 : decode cL_law 2559 = .ok (.goto 229, 3) := by decide +kernel
theorem dL_law_2562 : decode cL_law 2562 = .ok (.aload_n 1, 1) := by decide +kernel
theorem dL_law_2563 : decode cL_law 2563 = .ok (.invokevirtual 306, 3) := by decide +kernel
theorem dL_law_2566 : decode cL_law 2566 = .ok (.aload_n 2, 1) := by decide +kernel
theorem dL_law_2567 : decode cL_law 2567 = .ok (.invokevirtual 310, 3) := by decide +kernel
theorem dL_law_2570 : decode cL_law 2570 = .ok (.if_icmp .eq 218, 3) := by decide +kernel
theorem dL_law_2573 : decode cL_law 2573 = .ok (.iconst 0, 1) := by decide +kernel
theorem dL_law_2574 : decode cL_law 2574 = .ok (.ireturn, 1) := by decide +kernel
theorem dL_law_2575 : decode cL_law 2575 = .ok (.aload_n 1, 1) := by decide +kernel
theorem dL_law_2576 : decode cL_law 2576 = .ok (.aload_n 0, 1) := by decide +kernel
theorem dL_law_2577 : decode cL_law 2577 = .ok (.iload 5, 2) := by decide +kernel
theorem dL_law_2579 : decode cL_law 2579 = .ok (.iconst 1, 1) := by decide +kernel
theorem dL_law_2580 : decode cL_law 2580 = .ok (.iadd, 1) := by decide +kernel
theorem dL_law_2581 : decode cL_law 2581 = .ok (.iaload, 1) := by decide +kernel
theorem dL_law_2582 : decode cL_law 2582 = .ok (.aload_n 3, 1) := by decide +kernel
theorem dL_law_2583 : decode cL_law 2583 = .ok (.invokestatic 311, 3) := by decide +kernel
theorem dL_law_2586 : decode cL_law 2586 = .ok (.istore 6, 2) := by decide +kernel
theorem dL_law_2588 : decode cL_law 2588 = .ok (.aload_n 2, 1) := by decide +kernel
theorem dL_law_2589 : decode cL_law 2589 = .ok (.aload_n 0, 1) := by decide +kernel
theorem dL_law_2590 : decode cL_law 2590 = .ok (.iload 5, 2) := by decide +kernel
theorem dL_law_2592 : decode cL_law 2592 = .ok (.iconst 1, 1) := by decide +kernel
theorem dL_law_2593 : decode cL_law 2593 = .ok (.iadd, 1) := by decide +kernel
theorem dL_law_2594 : decode cL_law 2594 = .ok (.iaload, 1) := by decide +kernel
theorem dL_law_2595 : decode cL_law 2595 = .ok (.invokevirtual 313, 3) := by decide +kernel
theorem dL_law_2598 : decode cL_law 2598 = .ok (.istore 7, 2) := by decide +kernel
theorem dL_law_2600 : decode cL_law 2600 = .ok (.aload_n 2, 1) := by decide +kernel
theorem dL_law_2601 : decode cL_law 2601 = .ok (.invokevirtual 158, 3) := by decide +kernel
theorem dL_law_2604 : decode cL_law 2604 = .ok (.iload 6, 2) := by decide +kernel
theorem dL_law_2606 : decode cL_law 2606 = .ok (.if_icmp .eq 5, 3) := by decide +kernel
theorem dL_law_2609 : decode cL_law 2609 = .ok (.iconst 0, 1) := by decide +kernel
theorem dL_law_2610 : decode cL_law 2610 = .ok (.ireturn, 1) := by decide +kernel
theorem dL_law_2611 : decode cL_law 2611 = .ok (.iload 6, 2) := by decide +kernel
theorem dL_law_2613 : decode cL_law 2613 = .ok (.ifCond .ne 15, 3) := by decide +kernel
theorem dL_law_2616 : decode cL_law 2616 = .ok (.aload_n 3, 1) := by decide +kernel
theorem dL_law_2617 : decode cL_law 2617 = .ok (.iconst 0, 1) := by decide +kernel
theorem dL_law_2618 : decode cL_law 2618 = .ok (.laload, 1) := by decide +kernel
theorem dL_law_2619 : decode cL_law 2619 = .ok (.iload 7, 2) := by decide +kernel
theorem dL_law_2621 : decode cL_law 2621 = .ok (.i2l, 1) := by decide +kernel
theorem dL_law_2622 : decode cL_law 2622 = .ok (.lcmp, 1) := by decide +kernel
theorem dL_law_2623 : decode cL_law 2623 = .ok (.ifCond .eq 5, 3) := by decide +kernel
theorem dL_law_2626 : decode cL_law 2626 = .ok (.iconst 0, 1) := by decide +kernel
theorem dL_law_2627 : decode cL_law 2627 = .ok (.ireturn, 1) := by decide +kernel
theorem dL_law_2628 : decode cL_law 2628 = .ok (.goto 160, 3) := by decide +kernel
theorem dL_law_2631 : decode cL_law 2631 = .ok (.aload_n 1, 1) := by decide +kernel
theorem dL_law_2632 : decode cL_law 2632 = .ok (.aload_n 0, 1) := by decide +kernel
theorem dL_law_2633 : decode cL_law 2633 = .ok (.iload 5, 2) := by decide +kernel
theorem dL_law_2635 : decode cL_law 2635 = .ok (.iconst 1, 1) := by decide +kernel
theorem dL_law_2636 : decode cL_law 2636 = .ok (.iadd, 1) := by decide +kernel
theorem dL_law_2637 : decode cL_law 2637 = .ok (.iaload, 1) := by decide +kernel
theorem dL_law_2638 : decode cL_law 2638 = .ok (.aload_n 3, 1) := by decide +kernel
theorem dL_law_2639 : decode cL_law 2639 = .ok (.invokestatic 314, 3) := by decide +kernel
theorem dL_law_2642 : decode cL_law 2642 = .ok (.istore 6, 2) := by decide +kernel
theorem dL_law_2644 : decode cL_law 2644 = .ok (.aload_n 2, 1) := by decide +kernel
theorem dL_law_2645 : decode cL_law 2645 = .ok (.aload_n 0, 1) := by decide +kernel
theorem dL_law_2646 : decode cL_law 2646 = .ok (.iload 5, 2) := by decide +kernel
theorem dL_law_2648 : decode cL_law 2648 = .ok (.iconst 1, 1) := by decide +kernel
theorem dL_law_2649 : decode cL_law 2649 = .ok (.iadd, 1) := by decide +kernel
theorem dL_law_2650 : decode cL_law 2650 = .ok (.iaload, 1) := by decide +kernel
theorem dL_law_2651 : decode cL_law 2651 = .ok (.invokevirtual 316, 3) := by decide +kernel
theorem dL_law_2654 : decode cL_law 2654 = .ok (.istore 7, 2) := by decide +kernel
theorem dL_law_2656 : decode cL_law 2656 = .ok (.aload_n 2, 1) := by decide +kernel
theorem dL_law_2657 : decode cL_law 2657 = .ok (.invokevirtual 158, 3) := by decide +kernel
theorem dL_law_2660 : decode cL_law 2660 = .ok (.iload 6, 2) := by decide +kernel
theorem dL_law_2662 : decode cL_law 2662 = .ok (.if_icmp .eq 5, 3) := by decide +kernel
theorem dL_law_2665 : decode cL_law 2665 = .ok (.iconst 0, 1) := by decide +kernel
theorem dL_law_2666 : decode cL_law 2666 = .ok (.ireturn, 1) := by decide +kernel
theorem dL_law_2667 : decode cL_law 2667 = .ok (.iload 6, 2) := by decide +kernel
theorem dL_law_2669 : decode cL_law 2669 = .ok (.ifCond .ne 15, 3) := by decide +kernel
theorem dL_law_2672 : decode cL_law 2672 = .ok (.aload_n 3, 1) := by decide +kernel
theorem dL_law_2673 : decode cL_law 2673 = .ok (.iconst 0, 1) := by decide +kernel
theorem dL_law_2674 : decode cL_law 2674 = .ok (.laload, 1) := by decide +kernel
theorem dL_law_2675 : decode cL_law 2675 = .ok (.iload 7, 2) := by decide +kernel
theorem dL_law_2677 : decode cL_law 2677 = .ok (.i2l, 1) := by decide +kernel
theorem dL_law_2678 : decode cL_law 2678 = .ok (.lcmp, 1) := by decide +kernel
theorem dL_law_2679 : decode cL_law 2679 = .ok (.ifCond .eq 5, 3) := by decide +kernel
theorem dL_law_2682 : decode cL_law 2682 = .ok (.iconst 0, 1) := by decide +kernel
theorem dL_law_2683 : decode cL_law 2683 = .ok (.ireturn, 1) := by decide +kernel
theorem dL_law_2684 : decode cL_law 2684 = .ok (.goto 104, 3) := by decide +kernel
theorem dL_law_2687 : decode cL_law 2687 = .ok (.aload_n 1, 1) := by decide +kernel
theorem dL_law_2688 : decode cL_law 2688 = .ok (.aload_n 3, 1) := by decide +kernel
theorem dL_law_2689 : decode cL_law 2689 = .ok (.invokestatic 317, 3) := by decide +kernel
theorem dL_law_2692 : decode cL_law 2692 = .ok (.istore 6, 2) := by decide +kernel
theorem dL_law_2694 : decode cL_law 2694 = .ok (.aload_n 2, 1) := by decide +kernel
theorem dL_law_2695 : decode cL_law 2695 = .ok (.invokevirtual 319, 3) := by decide +kernel
theorem dL_law_2698 : decode cL_law 2698 = .ok (.istore 7, 2) := by decide +kernel
theorem dL_law_2700 : decode cL_law 2700 = .ok (.aload_n 2, 1) := by decide +kernel
theorem dL_law_2701 : decode cL_law 2701 = .ok (.invokevirtual 158, 3) := by decide +kernel
theorem dL_law_2704 : decode cL_law 2704 = .ok (.iload 6, 2) := by decide +kernel
theorem dL_law_2706 : decode cL_law 2706 = .ok (.if_icmp .eq 5, 3) := by decide +kernel
theorem dL_law_2709 : decode cL_law 2709 = .ok (.iconst 0, 1) := by decide +kernel
theorem dL_law_2710 : decode cL_law 2710 = .ok (.ireturn, 1) := by decide +kernel
theorem dL_law_2711 : decode cL_law 2711 = .ok (.iload 6, 2) := by decide +kernel
theorem dL_law_2713 : decode cL_law 2713 = .ok (.ifCond .ne 15, 3) := by decide +kernel
theorem dL_law_2716 : decode cL_law 2716 = .ok (.aload_n 3, 1) := by decide +kernel
theorem dL_law_2717 : decode cL_law 2717 = .ok (.iconst 0, 1) := by decide +kernel
theorem dL_law_2718 : decode cL_law 2718 = .ok (.laload, 1) := by decide +kernel
theorem dL_law_2719 : decode cL_law 2719 = .ok (.iload 7, 2) := by decide +kernel
theorem dL_law_2721 : decode cL_law 2721 = .ok (.i2l, 1) := by decide +kernel
theorem dL_law_2722 : decode cL_law 2722 = .ok (.lcmp, 1) := by decide +kernel
theorem dL_law_2723 : decode cL_law 2723 = .ok (.ifCond .eq 5, 3) := by decide +kernel
theorem dL_law_2726 : decode cL_law 2726 = .ok (.iconst 0, 1) := by decide +kernel
theorem dL_law_2727 : decode cL_law 2727 = .ok (.ireturn, 1) := by decide +kernel
theorem dL_law_2728 : decode cL_law 2728 = .ok (.goto 60, 3) := by decide +kernel
theorem dL_law_2731 : decode cL_law 2731 = .ok (.aload_n 1, 1) := by decide +kernel
theorem dL_law_2732 : decode cL_law 2732 = .ok (.invokevirtual 320, 3) := by decide +kernel
theorem dL_law_2735 : decode cL_law 2735 = .ok (.aload_n 2, 1) := by decide +kernel
theorem dL_law_2736 : decode cL_law 2736 = .ok (.invokevirtual 323, 3) := by decide +kernel
theorem dL_law_2739 : decode cL_law 2739 = .ok (.if_icmp .eq 49, 3) := by decide +kernel
theorem dL_law_2742 : decode cL_law 2742 = .ok (.iconst 0, 1) := by decide +kernel
theorem dL_law_2743 : decode cL_law 2743 = .ok (.ireturn, 1) := by decide +kernel
theorem dL_law_2744 : decode cL_law 2744 = .ok (.aload_n 1, 1) := by decide +kernel
theorem dL_law_2745 : decode cL_law 2745 = .ok (.aload_n 3, 1) := by decide +kernel
theorem dL_law_2746 : decode cL_law 2746 = .ok (.invokestatic 324, 3) := by decide +kernel
theorem dL_law_2749 : decode cL_law 2749 = .ok (.istore 6, 2) := by decide +kernel
theorem dL_law_2751 : decode cL_law 2751 = .ok (.aload_n 2, 1) := by decide +kernel
theorem dL_law_2752 : decode cL_law 2752 = .ok (.invokevirtual 326, 3) := by decide +kernel
theorem dL_law_2755 : decode cL_law 2755 = .ok (.istore 7, 2) := by decide +kernel
theorem dL_law_2757 : decode cL_law 2757 = .ok (.aload_n 2, 1) := by decide +kernel
theorem dL_law_2758 : decode cL_law 2758 = .ok (.invokevirtual 158, 3) := by decide +kernel
theorem dL_law_2761 : decode cL_law 2761 = .ok (.iload 6, 2) := by decide +kernel
theorem dL_law_2763 : decode cL_law 2763 = .ok (.if_icmp .eq 5, 3) := by decide +kernel
theorem dL_law_2766 : decode cL_law 2766 = .ok (.iconst 0, 1) := by decide +kernel
theorem dL_law_2767 : decode cL_law 2767 = .ok (.ireturn, 1) := by decide +kernel
theorem dL_law_2768 : decode cL_law 2768 = .ok (.iload 6, 2) := by decide +kernel
theorem dL_law_2770 : decode cL_law 2770 = .ok (.ifCond .ne 15, 3) := by decide +kernel
theorem dL_law_2773 : decode cL_law 2773 = .ok (.aload_n 3, 1) := by decide +kernel
theorem dL_law_2774 : decode cL_law 2774 = .ok (.iconst 0, 1) := by decide +kernel
theorem dL_law_2775 : decode cL_law 2775 = .ok (.laload, 1) := by decide +kernel
theorem dL_law_2776 : decode cL_law 2776 = .ok (.iload 7, 2) := by decide +kernel
theorem dL_law_2778 : decode cL_law 2778 = .ok (.i2l, 1) := by decide +kernel
theorem dL_law_2779 : decode cL_law 2779 = .ok (.lcmp, 1) := by decide +kernel
theorem dL_law_2780 : decode cL_law 2780 = .ok (.ifCond .eq 5, 3) := by decide +kernel
theorem dL_law_2783 : decode cL_law 2783 = .ok (.iconst 0, 1) := by decide +kernel
theorem dL_law_2784 : decode cL_law 2784 = .ok (.ireturn, 1) := by decide +kernel
theorem dL_law_2785 : decode cL_law 2785 = .ok (.goto 3, 3) := by decide +kernel
theorem dL_law_2788 : decode cL_law 2788 = .ok (.iinc 5 4, 3) := by decide +kernel
theorem dL_law_2791 : decode cL_law 2791 = .ok (.goto (-2763), 3) := by decide +kernel
theorem dL_law_2794 : decode cL_law 2794 = .ok (.iconst 1, 1) := by decide +kernel
theorem dL_law_2795 : decode cL_law 2795 = .ok (.ireturn, 1) := by decide +kernel
end
section
/-! THE FRAME OF THIS PROOF: a heap of plain functions over places 0, 1, 2 .. (0: the script; from 1 on in the order in which the law's objects are made), and a judgement over it, q_G, a row an instruction. -/
/-- what is fixed for a walk: the launch, the script's address, the first address that is free at the law's start, the classes, the arrays' classes by kind, the script's length and ints -/
def q_Fx : Type := Launch × Nat × Nat × va_G × (Nat → ClassId) × Nat × (Nat → Int32)
def q_Fx.l (Φ : q_Fx) : Launch := Φ.1
def q_Fx.b (Φ : q_Fx) : Nat := Φ.2.1
def q_Fx.bb (Φ : q_Fx) : Nat := Φ.2.2.1
def q_Fx.D (Φ : q_Fx) : va_G := Φ.2.2.2.1
def q_Fx.cy (Φ : q_Fx) : Nat → ClassId := Φ.2.2.2.2.1
def q_Fx.L (Φ : q_Fx) : Nat := Φ.2.2.2.2.2.1
def q_Fx.xs (Φ : q_Fx) : Nat → Int32 := Φ.2.2.2.2.2.2
/-- the heap: ints (fields and elements), references, longs, doubles, how many places are made -/
def q_Hp : Type := (Nat → Nat → Int32) × (Nat → Nat → Option Nat) × (Nat → Nat → Int64) × (Nat → Nat → UInt64) × Nat
def q_Hp.I (h : q_Hp) : Nat → Nat → Int32 := h.1
def q_Hp.R (h : q_Hp) : Nat → Nat → Option Nat := h.2.1
def q_Hp.J (h : q_Hp) : Nat → Nat → Int64 := h.2.2.1
def q_Hp.E (h : q_Hp) : Nat → Nat → UInt64 := h.2.2.2.1
def q_Hp.n (h : q_Hp) : Nat := h.2.2.2.2
/-- one slot anew -/
def q_up {α : Type} (I : Nat → Nat → α) (a f : Nat) (v : α) : Nat → Nat → α := fun a' => if a' = a then va_up (I a) f v else I a'
/-- one row anew -/
def q_row {α : Type} (I : Nat → Nat → α) (a : Nat) (g : Nat → α) : Nat → Nat → α := fun a' => if a' = a then g else I a'
def q_Hp.setI (h : q_Hp) (a f : Nat) (v : Int32) : q_Hp := (q_up h.I a f v, h.R, h.J, h.E, h.n)
def q_Hp.setR (h : q_Hp) (a f : Nat) (v : Option Nat) : q_Hp := (h.I, q_up h.R a f v, h.J, h.E, h.n)
def q_Hp.setJ (h : q_Hp) (a f : Nat) (v : Int64) : q_Hp := (h.I, h.R, q_up h.J a f v, h.E, h.n)
def q_Hp.setE (h : q_Hp) (a f : Nat) (v : UInt64) : q_Hp := (h.I, h.R, h.J, q_up h.E a f v, h.n)
def q_Hp.rowI (h : q_Hp) (a : Nat) (g : Nat → Int32) : q_Hp := (q_row h.I a g, h.R, h.J, h.E, h.n)
/-- one place more, empty -/
def q_Hp.grow (h : q_Hp) : q_Hp := (q_row h.I (h.n + 1) (fun _ => 0), q_row h.R (h.n + 1) (fun _ => none), q_row h.J (h.n + 1) (fun _ => 0), q_row h.E (h.n + 1) (fun _ => 0), h.n + 1)
/-- how many places the law makes in all -/
def q_N : Nat := 1075
/-! kinds of places: 0 .. 10 objects of the classes X0 .. X10; 11 char[], 12 int[], 13 Session[], 14 State[], 15 int[][], 16 long[], 17 double[] -/
/-- a State's block of 131 places -/
def q_tagS (r : Nat) : Nat := if r = 0 then 5 else if r = 1 then 6 else if r = 2 then 12 else if r = 3 then 12 else if r = 4 then 8 else if r = 5 then 12 else if r = 6 then 12 else if r = 7 then 4 else if r = 8 then 13 else if r < 129 then (if (r - 9) % 3 = 0 then 3 else 12) else if r = 129 then 2 else 12
def q_lenS (r : Nat) : Nat := if r = 2 then 10 else if r = 3 then 10 else if r = 5 then 6 else if r = 6 then 6 else if r = 8 then 40 else if r < 129 then 8 else 28
def q_tag (k : Nat) : Nat := if k = 0 then 12 else if k = 1 then 9 else if k < 133 then q_tagS (k - 2) else if k = 133 then 1 else if k = 134 then 14 else if k < 921 then q_tagS ((k - 135) % 131) else if k < 1052 then q_tagS (k - 921)
  else if k = 1052 then 11 else if k = 1053 then 7 else if k = 1056 then 0 else if k = 1061 then 10 else if k = 1063 then 15 else if k = 1073 then 11 else if k = 1074 then 16 else if k = 1075 then 17 else 12
def q_len (k : Nat) : Nat := if k < 133 then q_lenS (k - 2) else if k = 134 then 6 else if k < 921 then q_lenS ((k - 135) % 131) else if k < 1052 then q_lenS (k - 921)
  else if k = 1052 then 13 else if k = 1054 then 200 else if k = 1055 then 200 else if k = 1057 then 200 else if k = 1058 then 40 else if k = 1059 then 6 else if k = 1060 then 241
  else if k = 1062 then 830 else if k = 1063 then 6 else if k < 1071 then 830 else if k = 1071 then 200 else if k = 1072 then 6 else if k = 1073 then 13 else 1
/-- which fields are references -/
def q_kinds : Nat → List Bool
  | 0 => [false, false, false]
  | 1 => [true, false, false]
  | 2 => [false, false, false, true]
  | 3 => [false, false, false, true, true]
  | 4 => [true, false, false]
  | 5 => [false, true, true, true, true]
  | 6 => [true, true, false]
  | 7 => [true, true, false]
  | 8 => [true, true]
  | 9 => [true, true, true, false, true, false, true, true, true, true, true, true]
  | 10 => [true, true, true, true, true, true, false, false, false, false, false, false, false, false]
  | _ => []
abbrev q_cl : List vw_C := [(RX0, TX0, 3), (RX1, TX1, 3), (RX2, TX2, 4), (RX3, TX3, 5), (RX4, TX4, 3), (RX5, TX5, 5), (RX6, TX6, 3), (RX7, TX7, 3), (RX8, TX8, 2), (RX9, TX9, 12), (RX10, TX10, 14)]
abbrev q_tys (Φ : q_Fx) : List (ClassId × FieldType) := [(Φ.cy 11, .char), (Φ.cy 12, .int), (Φ.cy 13, .object RX3), (Φ.cy 14, .object RX5), (Φ.cy 15, .array .int), (Φ.cy 16, .long), (Φ.cy 17, .double)]
/-- a place's address, and a value with it -/
def q_ad (Φ : q_Fx) (k : Nat) : Nat := if k = 0 then Φ.b else Φ.bb + (k - 1)
def q_cv (Φ : q_Fx) : Value → Value
  | .ref k => .ref (q_ad Φ k)
  | v => v
def q_rf : Option Nat → Value
  | none => .null
  | some k => .ref k
theorem q_cv_rf (Φ : q_Fx) (o : Option Nat) : q_cv Φ (q_rf o) = va_rf (o.map (q_ad Φ)) := by cases o <;> rfl
/-- an object's fields, at a place k -/
def q_fs (Φ : q_Fx) (h : q_Hp) (k : Nat) : List Value := (List.range (q_kinds (q_tag k)).length).map (fun f => if (q_kinds (q_tag k))[f]? = some true then va_rf ((h.R k f).map (q_ad Φ)) else .int (h.I k f))
/-- the cell at a place k -/
def q_cell (Φ : q_Fx) (h : q_Hp) (k : Nat) : va_E :=
  if q_tag k < 11 then .inr (q_tag k, q_fs Φ h k)
  else if q_tag k < 13 then .inl (Φ.cy (q_tag k), q_len k, .inl (h.I k))
  else if q_tag k < 16 then .inl (Φ.cy (q_tag k), q_len k, .inr (.inr (.inr (.inr (fun i => (h.R k i).map (q_ad Φ))))))
  else if q_tag k < 17 then .inl (Φ.cy (q_tag k), q_len k, .inr (.inl (h.J k)))
  else .inl (Φ.cy (q_tag k), q_len k, .inr (.inr (.inr (.inl (h.E k)))))
def q_ws (Φ : q_Fx) (h : q_Hp) : va_W := (List.range h.n).map (fun j => (Φ.bb + j, q_cell Φ h (j + 1)))
/-- what the law may write: all from its start on -/
def q_A (Φ : q_Fx) : Nat → Prop := fun q => Φ.bb ≤ q
theorem q_ad_pos (Φ : q_Fx) {k : Nat} (h : 1 ≤ k) : q_ad Φ k = Φ.bb + (k - 1) := by
  unfold q_ad; rw [if_neg (by omega)]
theorem q_ws_at (Φ : q_Fx) (h : q_Hp) {k : Nat} (h1 : 1 ≤ k) (h2 : k ≤ h.n) : (q_ws Φ h)[k - 1]? = some (q_ad Φ k, q_cell Φ h k) := by
  unfold q_ws
  rw [List.getElem?_map, List.getElem?_range (by omega), Option.map_some, q_ad_pos Φ h1, Nat.sub_add_cancel h1]
theorem q_ws_len (Φ : q_Fx) (h : q_Hp) : (q_ws Φ h).length = h.n := by unfold q_ws; rw [List.length_map, List.length_range]
theorem q_D (Φ : q_Fx) (h : q_Hp) : va_D (q_A Φ) (q_ws Φ h) := by
  have key : ∀ (i : Nat) (p : Nat × va_E), (q_ws Φ h)[i]? = some p → p.1 = Φ.bb + i := by
    intro i p hi
    have hl : i < h.n := by rw [← q_ws_len Φ h]; exact (List.getElem?_eq_some_iff.mp hi).1
    unfold q_ws at hi
    rw [List.getElem?_map, List.getElem?_range hl, Option.map_some] at hi
    cases hi
    rfl
  refine ⟨fun i j p q hi hj hpq => ?_, fun k q hk => ?_⟩
  · have h1 := key i p hi
    have h2 := key j q hj
    omega
  · show Φ.bb ≤ q.1
    rw [key k q hk]; omega
/-- a cell set: the world of the heap that has it -/
theorem q_ws_set (Φ : q_Fx) {h h' : q_Hp} {k : Nat} {e : va_E} (h1 : 1 ≤ k) (h2 : k ≤ h.n) (hn : h'.n = h.n) (he : q_cell Φ h' k = e) (ho : ∀ j, j ≠ k → q_cell Φ h' j = q_cell Φ h j) : (q_ws Φ h).set (k - 1) (q_ad Φ k, e) = q_ws Φ h' := by
  apply List.ext_getElem?
  intro i
  by_cases hi : i = k - 1
  · subst hi
    rw [List.getElem?_set_self (by rw [q_ws_len]; omega), q_ws_at Φ h' h1 (by rw [hn]; exact h2), he]
  · rw [List.getElem?_set_ne (Ne.symm hi)]
    unfold q_ws
    rw [List.getElem?_map, List.getElem?_map, hn]
    by_cases hl : i < h.n
    · rw [List.getElem?_range hl, Option.map_some, Option.map_some, ho (i + 1) (by omega)]
    · rw [List.getElem?_eq_none (by rw [List.length_range]; omega)]; rfl
/-- a cell more -/
theorem q_ws_grow (Φ : q_Fx) {h h' : q_Hp} {e : va_E} (hn : h'.n = h.n + 1) (he : q_cell Φ h' (h.n + 1) = e) (ho : ∀ j, j ≠ h.n + 1 → q_cell Φ h' j = q_cell Φ h j) : q_ws Φ h ++ [(Φ.bb + h.n, e)] = q_ws Φ h' := by
  unfold q_ws
  rw [hn, List.range_succ, List.map_append, List.map_cons, List.map_nil, he]
  congr 1
  apply List.map_congr_left
  intro j hj
  rw [ho (j + 1) (by have := List.mem_range.mp hj; omega)]
/-! what lies outside: statics of Throwable, the Strings of the throws, the class's two constant rows -/
def q_strs : List (String × Nat × String) := [("TrainingDiary", 345, "an argument is out of range"), ("TrainingDiary", 74, "the diary ends before that day"), ("TrainingDiary", 100, "no further test is possible on this day"), ("TrainingDiary", 119, "there is no test on this day"), ("TrainingDiary", 141, "the bounds would not increase"), ("TrainingDiary", 163, "no further session is possible"), ("TrainingDiary", 359, "no session has this id"), ("TrainingDiary", 181, "the session has no room for this part"), ("TrainingDiary", 202, "there is no such position"), ("TrainingDiary", 228, "there are no minutes"), ("TrainingDiary", 257, "the form is not reached"), ("TrainingDiary", 348, "there are not so many days yet"), ("TrainingDiary", 354, "no session is so long"), ("TrainingDiary", 299, "no further entry is possible today"), ("TrainingDiary", 303, "there is no such entry"), ("TrainingDiary", 371, "no entry is due"), ("TrainingDiary", 327, "there is no such character"), ("TrainingDiary", 330, "nothing can be undone"), ("TrainingDiary", 338, "there is no snapshot")]
/-- the words that aren't good in the kit's sense, one by one -/
def q_nw : List Cond := [.methodLinkNest "TrainingDiary" 11 ⟨"TrainingDiary$State", "<init>", "()V"⟩ "TrainingDiary", .methodLinkNest "TrainingDiary$State" 15 ⟨"TrainingDiary$Tests", "<init>", "()V"⟩ "TrainingDiary", .methodLinkNest "TrainingDiary$State" 22 ⟨"TrainingDiary$Zones", "<init>", "()V"⟩ "TrainingDiary", .fieldLinkNest "TrainingDiary$Zones" 9 "TrainingDiary" "FIRST_BOUNDS" "[I" "TrainingDiary", .castable "[I" "java/lang/Cloneable", .fieldLinkNest "TrainingDiary$Zones" 23 "TrainingDiary" "FIRST_WEIGHTS" "[I" "TrainingDiary", .methodLinkNest "TrainingDiary$Sessions" 24 ⟨"TrainingDiary$Session", "<init>", "()V"⟩ "TrainingDiary", .methodLinkNest "TrainingDiary$State" 36 ⟨"TrainingDiary$Plan", "<init>", "()V"⟩ "TrainingDiary", .methodLinkNest "TrainingDiary$History" 24 ⟨"TrainingDiary$State", "<init>", "()V"⟩ "TrainingDiary", .methodLinkNest "TrainingDiary" 40 ⟨"TrainingDiary$Trend", "<init>", "()V"⟩ "TrainingDiary", .methodLinkNest "TrainingDiary" 47 ⟨"TrainingDiary$Course", "<init>", "()V"⟩ "TrainingDiary", .methodLinkNest "TrainingDiary$State" 91 ⟨"TrainingDiary", "clear", "([I)V"⟩ "TrainingDiary", .castable "java/lang/IllegalArgumentException" "java/lang/IllegalArgumentException", .declares ⟨"java/lang/RuntimeException", "<init>", "()V"⟩, .declares ⟨"java/lang/RuntimeException", "<init>", "(Ljava/lang/String;)V"⟩, .declares ⟨"java/lang/Exception", "<init>", "()V"⟩, .declares ⟨"java/lang/Exception", "<init>", "(Ljava/lang/String;)V"⟩, .declares ⟨"java/lang/Throwable", "<init>", "()V"⟩, .declares ⟨"java/lang/Throwable", "<init>", "(Ljava/lang/String;)V"⟩, .castable "java/lang/IllegalStateException" "java/lang/IllegalStateException", .castable "java/util/NoSuchElementException" "java/util/NoSuchElementException", .castable "java/lang/ArrayIndexOutOfBoundsException" "java/lang/ArrayIndexOutOfBoundsException", .declares ⟨"java/lang/IndexOutOfBoundsException", "<init>", "()V"⟩, .declares ⟨"java/lang/IndexOutOfBoundsException", "<init>", "(Ljava/lang/String;)V"⟩, .castable "java/lang/IndexOutOfBoundsException" "java/lang/IndexOutOfBoundsException", .castable "java/lang/ArithmeticException" "java/lang/ArithmeticException", .castable "java/lang/ArrayIndexOutOfBoundsException" "java/lang/IndexOutOfBoundsException", .castable "TrainingDiary" "java/lang/Object", .castable "TrainingDiary$State" "java/lang/Object", .castable "TrainingDiary$Tests" "java/lang/Object", .castable "TrainingDiary$Zones" "java/lang/Object", .castable "TrainingDiary$Sessions" "java/lang/Object", .castable "TrainingDiary$Session" "java/lang/Object", .castable "TrainingDiary$Plan" "java/lang/Object", .castable "TrainingDiary$History" "java/lang/Object", .castable "TrainingDiary$Trend" "java/lang/Object", .castable "TrainingDiary$Course" "java/lang/Object", .castable "TrainingDiaryModel" "java/lang/Object", .castable "java/lang/IllegalArgumentException" "java/lang/Object", .castable "java/lang/IllegalStateException" "java/lang/Object", .castable "java/util/NoSuchElementException" "java/lang/Object", .castable "java/lang/ArrayIndexOutOfBoundsException" "java/lang/Object", .castable "java/lang/IndexOutOfBoundsException" "java/lang/Object", .castable "java/lang/ArithmeticException" "java/lang/Object", .castable "java/lang/Throwable" "java/lang/Object", .castable "java/lang/String" "java/lang/Object"]
def q_Ext (Φ : q_Fx) (s : State) (H : Heap) : Prop :=
  vx_Zq Bundle.tN "UNASSIGNED_STACK" Bundle.steD (q_A Φ) s H ∧ vx_Zq Bundle.tN "SUPPRESSED_SENTINEL" Bundle.listD (q_A Φ) s H ∧
  (∀ x ∈ q_strs, ∃ a, vk_R x.1 x.2.1 x.2.2 a s) ∧ (∀ w ∈ q_nw, va_Nw w s)
end
section
/-! THE JUDGEMENT -/
def q_W0 : List Cond := lw_tbl.filter goodWord
theorem q_W0_mem {w : Cond} (h : w ∈ lw_tbl) (g : goodWord w = true) : w ∈ q_W0 := List.mem_filter.mpr ⟨h, g⟩
/-- a method's own: locals, return type, whether it is a constructor, its table, its room -/
def q_M : Type := Nat × Option FieldType × Bool × List ExceptionTableEntry × Room
def q_M.nL (M : q_M) : Nat := M.1
def q_M.ret (M : q_M) : Option FieldType := M.2.1
def q_M.ini (M : q_M) : Bool := M.2.2.1
def q_M.tbl (M : q_M) : List ExceptionTableEntry := M.2.2.2.1
def q_M.rm (M : q_M) : Room := M.2.2.2.2
/-- the machine at this method -/
def q_Ok (Φ : q_Fx) (cc : ByteArray) (own : String) (M : q_M) (p : Program) (s : State) (m : MethodId) (args : Array Value) (meth : Method) (c : Code) : Prop :=
  p.tables.exec = Jvm.exec ∧ c.code = cc ∧ c.maxLocals = M.nL ∧ s.vm.findClass own = some m.cls ∧ (∀ w ∈ q_W0, w.before args s = true) ∧ meth.sig.returnType = M.ret ∧ meth.locks = false ∧ (M.ini = true → meth.name = "<init>") ∧ c.exceptionTable.toList = M.tbl ∧ Φ.l.stackTraces = false
/-- the locals, place by place; none: not known -/
def q_mk (Φ : q_Fx) : Nat → List (Option Value) → List (Nat × Value)
  | _, [] => []
  | i, none :: t => q_mk Φ (i + 1) t
  | i, some v :: t => (i, q_cv Φ v) :: q_mk Φ (i + 1) t
theorem q_mk_get (Φ : q_Fx) : ∀ (L : List (Option Value)) (i k : Nat) (v : Value), L[k]? = some (some v) → (i + k, q_cv Φ v) ∈ q_mk Φ i L
  | [], _, _, _, h => by simp at h
  | none :: t, i, 0, v, h => by simp at h
  | some u :: t, i, 0, v, h => by
    simp at h; subst h; exact List.mem_cons_self
  | none :: t, i, k + 1, v, h => by
    have h2 := q_mk_get Φ t (i + 1) k v (by simpa using h)
    rw [show i + (k + 1) = i + 1 + k by omega]; exact h2
  | some u :: t, i, k + 1, v, h => by
    have h2 := q_mk_get Φ t (i + 1) k v (by simpa using h)
    rw [show i + (k + 1) = i + 1 + k by omega]; exact List.mem_cons_of_mem _ h2
theorem q_mk_of (Φ : q_Fx) : ∀ (L : List (Option Value)) (i : Nat) (q : Nat × Value), q ∈ q_mk Φ i L → ∃ (k : Nat) (v : Value), L[k]? = some (some v) ∧ q = (i + k, q_cv Φ v)
  | [], _, _, h => by cases h
  | none :: t, i, q, h => by
    obtain ⟨k, v, h1, h2⟩ := q_mk_of Φ t (i + 1) q h
    exact ⟨k + 1, v, by simpa using h1, by rw [h2, show i + 1 + k = i + (k + 1) by omega]⟩
  | some u :: t, i, q, h => by
    rcases List.mem_cons.mp h with h | h
    · exact ⟨0, u, by simp, h⟩
    · obtain ⟨k, v, h1, h2⟩ := q_mk_of Φ t (i + 1) q h
      exact ⟨k + 1, v, by simpa using h1, by rw [h2, show i + 1 + k = i + (k + 1) by omega]⟩
theorem q_cv_cat (Φ : q_Fx) (v : Value) : (q_cv Φ v).category = v.category := by cases v <;> rfl
/-- no wide value just below the place i -/
def q_nw1 (L : List (Option Value)) (i : Nat) : Bool := match i with
  | 0 => true
  | j + 1 => match L[j]? with
    | some (some (.long _)) => false
    | some (some (.double _)) => false
    | _ => true
theorem q_nw1_of {L : List (Option Value)} {j : Nat} {v : Value} (h : q_nw1 L (j + 1) = true) (hv : L[j]? = some (some v)) : v.category = 1 := by
  unfold q_nw1 at h
  simp only [hv] at h
  cases v <;> first | rfl | (simp at h)
theorem q_has_sub {ls : Array Slot} {nL : Nat} {l l' : List (Nat × Value)} (h : lv_has ls nL l) (hs : ∀ q ∈ l', q ∈ l) : lv_has ls nL l' := ⟨h.1, h.2.1, fun q hq => h.2.2 q (hs q hq)⟩
/-- behind a store of one word at the place i -/
theorem q_has1 {Φ : q_Fx} {ls : Array Slot} {nL i : Nat} {L L' : List (Option Value)} {v : Value} (h : lv_has ls nL ((i, q_cv Φ v) :: (q_mk Φ 0 L).filter (fun q => !(q.1 == i) && !(q.1 + 1 == i && q.2.category == 2)))) (hw : q_nw1 L i = true) (hL : L.set i (some v) = L') : lv_has ls nL (q_mk Φ 0 L') := by
  subst hL
  refine q_has_sub h fun q hq => ?_
  obtain ⟨k, u, h1, rfl⟩ := q_mk_of Φ _ 0 q hq
  rw [Nat.zero_add]
  by_cases hk : i = k
  · subst hk
    have hl : i < L.length := by
      have := (List.getElem?_eq_some_iff.mp h1).1
      rwa [List.length_set] at this
    rw [List.getElem?_set_self hl] at h1
    cases h1
    exact List.mem_cons_self
  · rw [List.getElem?_set_ne hk] at h1
    refine List.mem_cons_of_mem _ (List.mem_filter.mpr ⟨by have := q_mk_get Φ L 0 k u h1; rwa [Nat.zero_add] at this, ?_⟩)
    have e1 : (k == i) = false := by simp; exact fun h => hk h.symm
    by_cases hk2 : k + 1 = i
    · subst hk2
      have hc := q_nw1_of hw h1
      simp [e1, q_cv_cat, hc]
    · simp [e1, hk2]
/-- behind a store of two words -/
theorem q_has2 {Φ : q_Fx} {ls : Array Slot} {nL i : Nat} {L L' : List (Option Value)} {v : Value} (h : lv_has ls nL ((i, q_cv Φ v) :: (q_mk Φ 0 L).filter (fun q => !(q.1 == i) && (!(q.1 == i + 1) && !(q.1 + 1 == i && q.2.category == 2))))) (hw : q_nw1 L i = true) (hL : (L.set i (some v)).set (i + 1) none = L') : lv_has ls nL (q_mk Φ 0 L') := by
  subst hL
  refine q_has_sub h fun q hq => ?_
  obtain ⟨k, u, h1, rfl⟩ := q_mk_of Φ _ 0 q hq
  rw [Nat.zero_add]
  by_cases hk : i + 1 = k
  · subst hk
    by_cases hl : i + 1 < (L.set i (some v)).length
    · rw [List.getElem?_set_self hl] at h1; cases h1
    · rw [List.getElem?_eq_none (by rw [List.length_set]; omega)] at h1; cases h1
  rw [List.getElem?_set_ne hk] at h1
  by_cases hk : i = k
  · subst hk
    have hl : i < L.length := by
      have := (List.getElem?_eq_some_iff.mp h1).1
      rwa [List.length_set] at this
    rw [List.getElem?_set_self hl] at h1
    cases h1
    exact List.mem_cons_self
  · rw [List.getElem?_set_ne hk] at h1
    refine List.mem_cons_of_mem _ (List.mem_filter.mpr ⟨by have := q_mk_get Φ L 0 k u h1; rwa [Nat.zero_add] at this, ?_⟩)
    have e1 : (k == i) = false := by simp; exact fun h => hk h.symm
    have e2 : (k == i + 1) = false := by simp; omega
    by_cases hk2 : k + 1 = i
    · subst hk2
      have hc := q_nw1_of hw h1
      simp [e1, e2, q_cv_cat, hc]
    · simp [e1, e2, hk2]
theorem q_at {Φ : q_Fx} {ls : Array Slot} {nL k : Nat} {L : List (Option Value)} {v : Value} (h : lv_has ls nL (q_mk Φ 0 L)) (hk : L[k]? = some (some v)) : ls[k]? = some (.val (q_cv Φ v)) := by
  have h1 := q_mk_get Φ L 0 k v hk
  rw [Nat.zero_add] at h1
  exact h.2.2 _ h1
/-- the world at a point: s is the state at this method's entry -/
def q_Rel (Φ : q_Fx) (xb : Bool) (h : q_Hp) (s : State) (H : Heap) (locs : List Loc) (cells : Nat) : Prop :=
  va_K Φ.D q_cl (q_tys Φ) s ∧ va_P Φ.D q_cl (q_ws Φ h) H ∧ va_S (q_A Φ) s.heap H locs ∧ va_X Φ.b Φ.L Φ.xs s s.heap ∧ Φ.b < Φ.bb ∧ Φ.bb ≤ s.heap.size ∧ q_Ext Φ s s.heap ∧ (xb = true → s.heap.size + cells = Φ.bb + h.n)
/-- xb: in the time of the making, where every new cell is a place -/
def q_G (Φ : q_Fx) (xb : Bool) (cc : ByteArray) (own : String) (M : q_M) (Z : Program → Env → State → MethodId → Array Value → List Frame → State → Prop) (pc : Nat) (L : List (Option Value)) (S : List Value) (h : q_Hp) (kc ks : Nat) : Prop :=
  ∀ (p : Program) (e : Env) (s : State) (m : MethodId) (args : Array Value) (below : List Frame) (meth : Method) (c : Code) (H : Heap) (locs : List Loc) (cells slots : Nat) (ls : Array Slot),
    q_Ok Φ cc own M p s m args meth c → q_Rel Φ xb h s H locs cells → lv_has ls M.nL (q_mk Φ 0 L) → cells + kc = M.rm.cells → slots + ks = M.rm.slots →
    W p Φ.l e M.rm s m args below meth c H locs cells slots (Z p e s m args below) (F0 m pc ls (S.map (q_cv Φ)))
section QG
variable {Φ : q_Fx} {xb : Bool} {cc : ByteArray} {own : String} {M : q_M} {Z : Program → Env → State → MethodId → Array Value → List Frame → State → Prop} {pc : Nat} {L L' : List (Option Value)} {S : List Value} {h : q_Hp} {kc ks : Nat}

theorem q_iconst {n : Int} {v : Int32} (d : decode cc pc = .ok (.iconst n, 1)) (hv : Int32.ofInt n = v) (K : q_G Φ xb cc own M Z (pc + 1) L (.int v :: S) h kc ks) : q_G Φ xb cc own M Z pc L S h kc ks := by
  intro p e s m args below meth c H locs cells slots ls ok rel hl hc hs
  exact lv_iconst ok.1 ok.2.1 d hv (K p e s m args below meth c H locs cells slots ls ok rel hl hc hs)
theorem q_bipush {n : Int} {v : Int32} (d : decode cc pc = .ok (.bipush n, 2)) (hv : (Int8.ofInt n).toInt32 = v) (K : q_G Φ xb cc own M Z (pc + 2) L (.int v :: S) h kc ks) : q_G Φ xb cc own M Z pc L S h kc ks := by
  intro p e s m args below meth c H locs cells slots ls ok rel hl hc hs
  exact lv_bipush ok.1 ok.2.1 d hv (K p e s m args below meth c H locs cells slots ls ok rel hl hc hs)
theorem q_sipush {n : Int} {v : Int32} (d : decode cc pc = .ok (.sipush n, 3)) (hv : (Int16.ofInt n).toInt32 = v) (K : q_G Φ xb cc own M Z (pc + 3) L (.int v :: S) h kc ks) : q_G Φ xb cc own M Z pc L S h kc ks := by
  intro p e s m args below meth c H locs cells slots ls ok rel hl hc hs
  exact lv_sipush ok.1 ok.2.1 d hv (K p e s m args below meth c H locs cells slots ls ok rel hl hc hs)
theorem q_fconst0 (d : decode cc pc = .ok (.fconst 0, 1)) (K : q_G Φ xb cc own M Z (pc + 1) L (.float FP.fconst0 :: S) h kc ks) : q_G Φ xb cc own M Z pc L S h kc ks := by
  intro p e s m args below meth c H locs cells slots ls ok rel hl hc hs
  exact lv_fconst0 ok.1 ok.2.1 d (K p e s m args below meth c H locs cells slots ls ok rel hl hc hs)
theorem q_ldc {index : Nat} {v : Int32} (d : decode cc pc = .ok (.ldc index, 2)) (hw : Cond.constant own index v ∈ q_W0) (K : q_G Φ xb cc own M Z (pc + 2) L (.int v :: S) h kc ks) : q_G Φ xb cc own M Z pc L S h kc ks := by
  intro p e s m args below meth c H locs cells slots ls ok rel hl hc hs
  exact lv_ldc ok.1 ok.2.1 ok.2.2.2.1 (ok.2.2.2.2.1 _ hw) d (K p e s m args below meth c H locs cells slots ls ok rel hl hc hs)
theorem q_ldcw {index : Nat} {v : Int32} (d : decode cc pc = .ok (.ldc_w index, 3)) (hw : Cond.constant own index v ∈ q_W0) (K : q_G Φ xb cc own M Z (pc + 3) L (.int v :: S) h kc ks) : q_G Φ xb cc own M Z pc L S h kc ks := by
  intro p e s m args below meth c H locs cells slots ls ok rel hl hc hs
  exact lv_ldcw ok.1 ok.2.1 ok.2.2.2.1 (ok.2.2.2.2.1 _ hw) d (K p e s m args below meth c H locs cells slots ls ok rel hl hc hs)
theorem q_iload_n {k : Fin 4} {x : Int32} (d : decode cc pc = .ok (.iload_n k, 1)) (hL : L[k.val]? = some (some (.int x))) (K : q_G Φ xb cc own M Z (pc + 1) L (.int x :: S) h kc ks) : q_G Φ xb cc own M Z pc L S h kc ks := by
  intro p e s m args below meth c H locs cells slots ls ok rel hl hc hs
  exact lv_iload_n ok.1 ok.2.1 d rfl (q_at hl hL) (K p e s m args below meth c H locs cells slots ls ok rel hl hc hs)
theorem q_iload {i : Nat} {x : Int32} (d : decode cc pc = .ok (.iload i, 2)) (hL : L[i]? = some (some (.int x))) (K : q_G Φ xb cc own M Z (pc + 2) L (.int x :: S) h kc ks) : q_G Φ xb cc own M Z pc L S h kc ks := by
  intro p e s m args below meth c H locs cells slots ls ok rel hl hc hs
  exact lv_iload ok.1 ok.2.1 d (q_at hl hL) (K p e s m args below meth c H locs cells slots ls ok rel hl hc hs)
theorem q_fload_n {k : Fin 4} {x : UInt32} (d : decode cc pc = .ok (.fload_n k, 1)) (hL : L[k.val]? = some (some (.float x))) (K : q_G Φ xb cc own M Z (pc + 1) L (.float x :: S) h kc ks) : q_G Φ xb cc own M Z pc L S h kc ks := by
  intro p e s m args below meth c H locs cells slots ls ok rel hl hc hs
  exact lv_fload_n ok.1 ok.2.1 d rfl (q_at hl hL) (K p e s m args below meth c H locs cells slots ls ok rel hl hc hs)
theorem q_fload {i : Nat} {x : UInt32} (d : decode cc pc = .ok (.fload i, 2)) (hL : L[i]? = some (some (.float x))) (K : q_G Φ xb cc own M Z (pc + 2) L (.float x :: S) h kc ks) : q_G Φ xb cc own M Z pc L S h kc ks := by
  intro p e s m args below meth c H locs cells slots ls ok rel hl hc hs
  exact lv_fload ok.1 ok.2.1 d (q_at hl hL) (K p e s m args below meth c H locs cells slots ls ok rel hl hc hs)
theorem q_dload_n {k : Fin 4} {x : UInt64} (d : decode cc pc = .ok (.dload_n k, 1)) (hL : L[k.val]? = some (some (.double x))) (K : q_G Φ xb cc own M Z (pc + 1) L (.double x :: S) h kc ks) : q_G Φ xb cc own M Z pc L S h kc ks := by
  intro p e s m args below meth c H locs cells slots ls ok rel hl hc hs
  exact lv_dload_n ok.1 ok.2.1 d rfl (q_at hl hL) (K p e s m args below meth c H locs cells slots ls ok rel hl hc hs)
theorem q_dload {i : Nat} {x : UInt64} (d : decode cc pc = .ok (.dload i, 2)) (hL : L[i]? = some (some (.double x))) (K : q_G Φ xb cc own M Z (pc + 2) L (.double x :: S) h kc ks) : q_G Φ xb cc own M Z pc L S h kc ks := by
  intro p e s m args below meth c H locs cells slots ls ok rel hl hc hs
  exact lv_dload ok.1 ok.2.1 d (q_at hl hL) (K p e s m args below meth c H locs cells slots ls ok rel hl hc hs)
theorem q_aload_n {k : Fin 4} {x : Nat} (d : decode cc pc = .ok (.aload_n k, 1)) (hL : L[k.val]? = some (some (.ref x))) (K : q_G Φ xb cc own M Z (pc + 1) L (.ref x :: S) h kc ks) : q_G Φ xb cc own M Z pc L S h kc ks := by
  intro p e s m args below meth c H locs cells slots ls ok rel hl hc hs
  exact lv_aload_n ok.1 ok.2.1 d rfl (q_at hl hL) (K p e s m args below meth c H locs cells slots ls ok rel hl hc hs)
theorem q_aload {i : Nat} {x : Nat} (d : decode cc pc = .ok (.aload i, 2)) (hL : L[i]? = some (some (.ref x))) (K : q_G Φ xb cc own M Z (pc + 2) L (.ref x :: S) h kc ks) : q_G Φ xb cc own M Z pc L S h kc ks := by
  intro p e s m args below meth c H locs cells slots ls ok rel hl hc hs
  exact lv_aload ok.1 ok.2.1 d (q_at hl hL) (K p e s m args below meth c H locs cells slots ls ok rel hl hc hs)
theorem q_istore_n {k : Fin 4} {x : Int32} (d : decode cc pc = .ok (.istore_n k, 1)) (hL : L.set k.val (some (.int x)) = L') (hn : k.val < M.nL) (hw : q_nw1 L k.val = true) (K : q_G Φ xb cc own M Z (pc + 1) L' S h kc ks) : q_G Φ xb cc own M Z pc L (.int x :: S) h kc ks := by
  intro p e s m args below meth c H locs cells slots ls ok rel hl hc hs
  exact lv_istore_n ok.1 ok.2.1 d rfl hl hn rfl (fun ls2 hl2 => (K p e s m args below meth c H locs cells slots ls2 ok rel (q_has1 hl2 hw hL) hc hs))
theorem q_istore {i : Nat} {x : Int32} (d : decode cc pc = .ok (.istore i, 2)) (hL : L.set i (some (.int x)) = L') (hn : i < M.nL) (hw : q_nw1 L i = true) (K : q_G Φ xb cc own M Z (pc + 2) L' S h kc ks) : q_G Φ xb cc own M Z pc L (.int x :: S) h kc ks := by
  intro p e s m args below meth c H locs cells slots ls ok rel hl hc hs
  exact lv_istore ok.1 ok.2.1 d hl hn rfl (fun ls2 hl2 => (K p e s m args below meth c H locs cells slots ls2 ok rel (q_has1 hl2 hw hL) hc hs))
theorem q_fstore_n {k : Fin 4} {x : UInt32} (d : decode cc pc = .ok (.fstore_n k, 1)) (hL : L.set k.val (some (.float x)) = L') (hn : k.val < M.nL) (hw : q_nw1 L k.val = true) (K : q_G Φ xb cc own M Z (pc + 1) L' S h kc ks) : q_G Φ xb cc own M Z pc L (.float x :: S) h kc ks := by
  intro p e s m args below meth c H locs cells slots ls ok rel hl hc hs
  exact lv_fstore_n ok.1 ok.2.1 d rfl hl hn rfl (fun ls2 hl2 => (K p e s m args below meth c H locs cells slots ls2 ok rel (q_has1 hl2 hw hL) hc hs))
theorem q_fstore {i : Nat} {x : UInt32} (d : decode cc pc = .ok (.fstore i, 2)) (hL : L.set i (some (.float x)) = L') (hn : i < M.nL) (hw : q_nw1 L i = true) (K : q_G Φ xb cc own M Z (pc + 2) L' S h kc ks) : q_G Φ xb cc own M Z pc L (.float x :: S) h kc ks := by
  intro p e s m args below meth c H locs cells slots ls ok rel hl hc hs
  exact lv_fstore ok.1 ok.2.1 d hl hn rfl (fun ls2 hl2 => (K p e s m args below meth c H locs cells slots ls2 ok rel (q_has1 hl2 hw hL) hc hs))
theorem q_astore_n {k : Fin 4} {x : Nat} (d : decode cc pc = .ok (.astore_n k, 1)) (hL : L.set k.val (some (.ref x)) = L') (hn : k.val < M.nL) (hw : q_nw1 L k.val = true) (K : q_G Φ xb cc own M Z (pc + 1) L' S h kc ks) : q_G Φ xb cc own M Z pc L (.ref x :: S) h kc ks := by
  intro p e s m args below meth c H locs cells slots ls ok rel hl hc hs
  exact lv_astore_n ok.1 ok.2.1 d rfl hl hn rfl (fun ls2 hl2 => (K p e s m args below meth c H locs cells slots ls2 ok rel (q_has1 hl2 hw hL) hc hs))
theorem q_astore {i : Nat} {x : Nat} (d : decode cc pc = .ok (.astore i, 2)) (hL : L.set i (some (.ref x)) = L') (hn : i < M.nL) (hw : q_nw1 L i = true) (K : q_G Φ xb cc own M Z (pc + 2) L' S h kc ks) : q_G Φ xb cc own M Z pc L (.ref x :: S) h kc ks := by
  intro p e s m args below meth c H locs cells slots ls ok rel hl hc hs
  exact lv_astore ok.1 ok.2.1 d hl hn rfl (fun ls2 hl2 => (K p e s m args below meth c H locs cells slots ls2 ok rel (q_has1 hl2 hw hL) hc hs))
theorem q_dstore {i : Nat} {x : UInt64} (d : decode cc pc = .ok (.dstore i, 2)) (hL : (L.set i (some (.double x))).set (i + 1) none = L') (hn : i + 1 < M.nL) (hw : q_nw1 L i = true) (K : q_G Φ xb cc own M Z (pc + 2) L' S h kc ks) : q_G Φ xb cc own M Z pc L (.double x :: S) h kc ks := by
  intro p e s m args below meth c H locs cells slots ls ok rel hl hc hs
  exact lv_dstore ok.1 ok.2.1 d hl hn rfl (fun ls2 hl2 => (K p e s m args below meth c H locs cells slots ls2 ok rel (q_has2 hl2 hw hL) hc hs))
theorem q_iinc {i : Nat} {n : Int} {x v : Int32} (d : decode cc pc = .ok (.iinc i n, 3)) (hx : L[i]? = some (some (.int x))) (hv : x + Int32.ofInt n = v) (hL : L.set i (some (.int v)) = L') (hn : i < M.nL) (hw : q_nw1 L i = true) (K : q_G Φ xb cc own M Z (pc + 3) L' S h kc ks) : q_G Φ xb cc own M Z pc L S h kc ks := by
  intro p e s m args below meth c H locs cells slots ls ok rel hl hc hs
  have h1 := q_mk_get Φ L 0 i _ hx
  rw [Nat.zero_add] at h1
  obtain ⟨k, hk⟩ := List.getElem?_of_mem h1
  exact lv_iinc ok.1 ok.2.1 d hl hk hv hn rfl (fun ls2 hl2 => (K p e s m args below meth c H locs cells slots ls2 ok rel (q_has1 hl2 hw hL) hc hs))
theorem q_iadd {x y : Int32} (d : decode cc pc = .ok (.iadd, 1)) (K : q_G Φ xb cc own M Z (pc + 1) L (.int (x + y) :: S) h kc ks) : q_G Φ xb cc own M Z pc L (.int y :: .int x :: S) h kc ks := by
  intro p e s m args below meth c H locs cells slots ls ok rel hl hc hs
  exact lv_iadd ok.1 ok.2.1 d (K p e s m args below meth c H locs cells slots ls ok rel hl hc hs)
theorem q_isub {x y : Int32} (d : decode cc pc = .ok (.isub, 1)) (K : q_G Φ xb cc own M Z (pc + 1) L (.int (x - y) :: S) h kc ks) : q_G Φ xb cc own M Z pc L (.int y :: .int x :: S) h kc ks := by
  intro p e s m args below meth c H locs cells slots ls ok rel hl hc hs
  exact lv_isub ok.1 ok.2.1 d (K p e s m args below meth c H locs cells slots ls ok rel hl hc hs)
theorem q_imul {x y : Int32} (d : decode cc pc = .ok (.imul, 1)) (K : q_G Φ xb cc own M Z (pc + 1) L (.int (x * y) :: S) h kc ks) : q_G Φ xb cc own M Z pc L (.int y :: .int x :: S) h kc ks := by
  intro p e s m args below meth c H locs cells slots ls ok rel hl hc hs
  exact lv_imul ok.1 ok.2.1 d (K p e s m args below meth c H locs cells slots ls ok rel hl hc hs)
theorem q_iand {x y : Int32} (d : decode cc pc = .ok (.iand, 1)) (K : q_G Φ xb cc own M Z (pc + 1) L (.int (x &&& y) :: S) h kc ks) : q_G Φ xb cc own M Z pc L (.int y :: .int x :: S) h kc ks := by
  intro p e s m args below meth c H locs cells slots ls ok rel hl hc hs
  exact lv_iand ok.1 ok.2.1 d (K p e s m args below meth c H locs cells slots ls ok rel hl hc hs)
theorem q_idiv {x y : Int32} (d : decode cc pc = .ok (.idiv, 1)) (hne : ¬ y = 0) (K : q_G Φ xb cc own M Z (pc + 1) L (.int (x / y) :: S) h kc ks) : q_G Φ xb cc own M Z pc L (.int y :: .int x :: S) h kc ks := by
  intro p e s m args below meth c H locs cells slots ls ok rel hl hc hs
  exact lv_idiv ok.1 ok.2.1 d hne (K p e s m args below meth c H locs cells slots ls ok rel hl hc hs)
theorem q_irem {x y : Int32} (d : decode cc pc = .ok (.irem, 1)) (hne : ¬ y = 0) (K : q_G Φ xb cc own M Z (pc + 1) L (.int (x - x / y * y) :: S) h kc ks) : q_G Φ xb cc own M Z pc L (.int y :: .int x :: S) h kc ks := by
  intro p e s m args below meth c H locs cells slots ls ok rel hl hc hs
  exact lv_irem ok.1 ok.2.1 d hne (K p e s m args below meth c H locs cells slots ls ok rel hl hc hs)
theorem q_i2l {x : Int32} (d : decode cc pc = .ok (.i2l, 1)) (K : q_G Φ xb cc own M Z (pc + 1) L (.long x.toInt64 :: S) h kc ks) : q_G Φ xb cc own M Z pc L (.int x :: S) h kc ks := by
  intro p e s m args below meth c H locs cells slots ls ok rel hl hc hs
  exact lv_i2l ok.1 ok.2.1 d rfl (K p e s m args below meth c H locs cells slots ls ok rel hl hc hs)
theorem q_i2c {x v : Int32} (d : decode cc pc = .ok (.i2c, 1)) (hv : (x.toUInt32 % 65536).toInt32 = v) (K : q_G Φ xb cc own M Z (pc + 1) L (.int v :: S) h kc ks) : q_G Φ xb cc own M Z pc L (.int x :: S) h kc ks := by
  intro p e s m args below meth c H locs cells slots ls ok rel hl hc hs
  exact lv_i2c ok.1 ok.2.1 d hv (K p e s m args below meth c H locs cells slots ls ok rel hl hc hs)
theorem q_i2f {x : Int32} (d : decode cc pc = .ok (.i2f, 1)) (K : q_G Φ xb cc own M Z (pc + 1) L (.float (FP.i2f x) :: S) h kc ks) : q_G Φ xb cc own M Z pc L (.int x :: S) h kc ks := by
  intro p e s m args below meth c H locs cells slots ls ok rel hl hc hs
  exact lv_i2f ok.1 ok.2.1 d (K p e s m args below meth c H locs cells slots ls ok rel hl hc hs)
theorem q_i2d {x : Int32} (d : decode cc pc = .ok (.i2d, 1)) (K : q_G Φ xb cc own M Z (pc + 1) L (.double (FP.i2d x) :: S) h kc ks) : q_G Φ xb cc own M Z pc L (.int x :: S) h kc ks := by
  intro p e s m args below meth c H locs cells slots ls ok rel hl hc hs
  exact lv_i2d ok.1 ok.2.1 d (K p e s m args below meth c H locs cells slots ls ok rel hl hc hs)
theorem q_f2d {x : UInt32} (d : decode cc pc = .ok (.f2d, 1)) (hne : vf_n64 (FP.f2d x)) (K : q_G Φ xb cc own M Z (pc + 1) L (.double (FP.f2d x) :: S) h kc ks) : q_G Φ xb cc own M Z pc L (.float x :: S) h kc ks := by
  intro p e s m args below meth c H locs cells slots ls ok rel hl hc hs
  exact lv_f2d ok.1 ok.2.1 d hne (K p e s m args below meth c H locs cells slots ls ok rel hl hc hs)
theorem q_fdiv {x y : UInt32} (d : decode cc pc = .ok (.fdiv, 1)) (hne : vf_n32 (FP.fdiv x y)) (K : q_G Φ xb cc own M Z (pc + 1) L (.float (FP.fdiv x y) :: S) h kc ks) : q_G Φ xb cc own M Z pc L (.float y :: .float x :: S) h kc ks := by
  intro p e s m args below meth c H locs cells slots ls ok rel hl hc hs
  exact lv_fdiv ok.1 ok.2.1 d hne (K p e s m args below meth c H locs cells slots ls ok rel hl hc hs)
theorem q_ddiv {x y : UInt64} (d : decode cc pc = .ok (.ddiv, 1)) (hne : vf_n64 (FP.ddiv x y)) (K : q_G Φ xb cc own M Z (pc + 1) L (.double (FP.ddiv x y) :: S) h kc ks) : q_G Φ xb cc own M Z pc L (.double y :: .double x :: S) h kc ks := by
  intro p e s m args below meth c H locs cells slots ls ok rel hl hc hs
  exact lv_ddiv ok.1 ok.2.1 d hne (K p e s m args below meth c H locs cells slots ls ok rel hl hc hs)
theorem q_fcmp {x y : UInt32} {op : CmpOp} (d : decode cc pc = .ok (.fcmp op, 1)) (K : q_G Φ xb cc own M Z (pc + 1) L (.int (Op.cmpValue (FP.fcmp x y) op) :: S) h kc ks) : q_G Φ xb cc own M Z pc L (.float y :: .float x :: S) h kc ks := by
  intro p e s m args below meth c H locs cells slots ls ok rel hl hc hs
  exact lv_fcmp ok.1 ok.2.1 d (K p e s m args below meth c H locs cells slots ls ok rel hl hc hs)
theorem q_dcmp {x y : UInt64} {op : CmpOp} (d : decode cc pc = .ok (.dcmp op, 1)) (K : q_G Φ xb cc own M Z (pc + 1) L (.int (Op.cmpValue (FP.dcmp x y) op) :: S) h kc ks) : q_G Φ xb cc own M Z pc L (.double y :: .double x :: S) h kc ks := by
  intro p e s m args below meth c H locs cells slots ls ok rel hl hc hs
  exact lv_dcmp ok.1 ok.2.1 d (K p e s m args below meth c H locs cells slots ls ok rel hl hc hs)
theorem q_lcmp {x y : Int64} (d : decode cc pc = .ok (.lcmp, 1)) (K : q_G Φ xb cc own M Z (pc + 1) L (.int (lg_cmp x y) :: S) h kc ks) : q_G Φ xb cc own M Z pc L (.long y :: .long x :: S) h kc ks := by
  intro p e s m args below meth c H locs cells slots ls ok rel hl hc hs
  exact W.lcmp ok.1 ok.2.1 d (K p e s m args below meth c H locs cells slots ls ok rel hl hc hs)
theorem q_dup {v : Value} (d : decode cc pc = .ok (.dup, 1)) (hv : v.category = 1) (K : q_G Φ xb cc own M Z (pc + 1) L (v :: v :: S) h kc ks) : q_G Φ xb cc own M Z pc L (v :: S) h kc ks := by
  intro p e s m args below meth c H locs cells slots ls ok rel hl hc hs
  exact lv_dup ok.1 ok.2.1 d (by rw [q_cv_cat]; exact hv) (K p e s m args below meth c H locs cells slots ls ok rel hl hc hs)
theorem q_dup2 {u v : Value} (d : decode cc pc = .ok (.dup2, 1)) (hu : u.category = 1) (hv : v.category = 1) (K : q_G Φ xb cc own M Z (pc + 1) L (u :: v :: u :: v :: S) h kc ks) : q_G Φ xb cc own M Z pc L (u :: v :: S) h kc ks := by
  intro p e s m args below meth c H locs cells slots ls ok rel hl hc hs
  exact lv_dup2_11 ok.1 ok.2.1 d (by rw [q_cv_cat]; exact hu) (by rw [q_cv_cat]; exact hv) (K p e s m args below meth c H locs cells slots ls ok rel hl hc hs)
theorem q_pop {v : Value} (d : decode cc pc = .ok (.pop, 1)) (hv : v.category = 1) (K : q_G Φ xb cc own M Z (pc + 1) L S h kc ks) : q_G Φ xb cc own M Z pc L (v :: S) h kc ks := by
  intro p e s m args below meth c H locs cells slots ls ok rel hl hc hs
  exact lv_pop ok.1 ok.2.1 d (by rw [q_cv_cat]; exact hv) (K p e s m args below meth c H locs cells slots ls ok rel hl hc hs)
theorem q_goto {off : Int} {tgt : Nat} (d : decode cc pc = .ok (.goto off, 3)) (ht : (pc : Int) + off = (tgt : Int)) (K : q_G Φ xb cc own M Z tgt L S h kc ks) : q_G Φ xb cc own M Z pc L S h kc ks := by
  intro p e s m args below meth c H locs cells slots ls ok rel hl hc hs
  exact lv_goto ok.1 ok.2.1 d ht (K p e s m args below meth c H locs cells slots ls ok rel hl hc hs)
theorem q_if_eq {x : Int32} {off : Int} {tgt : Nat} (d : decode cc pc = .ok (.ifCond .eq off, 3)) (ht : (pc : Int) + off = (tgt : Int)) (K1 : x = 0 → q_G Φ xb cc own M Z tgt L S h kc ks) (K2 : ¬ (x = 0) → q_G Φ xb cc own M Z (pc + 3) L S h kc ks) : q_G Φ xb cc own M Z pc L (.int x :: S) h kc ks := by
  intro p e s m args below meth c H locs cells slots ls ok rel hl hc hs
  exact lv_if_eq ok.1 ok.2.1 d ht (fun q => K1 q p e s m args below meth c H locs cells slots ls ok rel hl hc hs) (fun q => K2 q p e s m args below meth c H locs cells slots ls ok rel hl hc hs)
theorem q_if_ne {x : Int32} {off : Int} {tgt : Nat} (d : decode cc pc = .ok (.ifCond .ne off, 3)) (ht : (pc : Int) + off = (tgt : Int)) (K1 : ¬ x = 0 → q_G Φ xb cc own M Z tgt L S h kc ks) (K2 : x = 0 → q_G Φ xb cc own M Z (pc + 3) L S h kc ks) : q_G Φ xb cc own M Z pc L (.int x :: S) h kc ks := by
  intro p e s m args below meth c H locs cells slots ls ok rel hl hc hs
  exact lv_if_ne ok.1 ok.2.1 d ht (fun q => K1 q p e s m args below meth c H locs cells slots ls ok rel hl hc hs) (fun q => K2 q p e s m args below meth c H locs cells slots ls ok rel hl hc hs)
theorem q_if_lt {x : Int32} {off : Int} {tgt : Nat} (d : decode cc pc = .ok (.ifCond .lt off, 3)) (ht : (pc : Int) + off = (tgt : Int)) (K1 : x < 0 → q_G Φ xb cc own M Z tgt L S h kc ks) (K2 : ¬ (x < 0) → q_G Φ xb cc own M Z (pc + 3) L S h kc ks) : q_G Φ xb cc own M Z pc L (.int x :: S) h kc ks := by
  intro p e s m args below meth c H locs cells slots ls ok rel hl hc hs
  exact lv_if_lt ok.1 ok.2.1 d ht (fun q => K1 q p e s m args below meth c H locs cells slots ls ok rel hl hc hs) (fun q => K2 q p e s m args below meth c H locs cells slots ls ok rel hl hc hs)
theorem q_if_ge {x : Int32} {off : Int} {tgt : Nat} (d : decode cc pc = .ok (.ifCond .ge off, 3)) (ht : (pc : Int) + off = (tgt : Int)) (K1 : 0 ≤ x → q_G Φ xb cc own M Z tgt L S h kc ks) (K2 : ¬ (0 ≤ x) → q_G Φ xb cc own M Z (pc + 3) L S h kc ks) : q_G Φ xb cc own M Z pc L (.int x :: S) h kc ks := by
  intro p e s m args below meth c H locs cells slots ls ok rel hl hc hs
  exact lv_if_ge ok.1 ok.2.1 d ht (fun q => K1 q p e s m args below meth c H locs cells slots ls ok rel hl hc hs) (fun q => K2 q p e s m args below meth c H locs cells slots ls ok rel hl hc hs)
theorem q_if_gt {x : Int32} {off : Int} {tgt : Nat} (d : decode cc pc = .ok (.ifCond .gt off, 3)) (ht : (pc : Int) + off = (tgt : Int)) (K1 : 0 < x → q_G Φ xb cc own M Z tgt L S h kc ks) (K2 : ¬ (0 < x) → q_G Φ xb cc own M Z (pc + 3) L S h kc ks) : q_G Φ xb cc own M Z pc L (.int x :: S) h kc ks := by
  intro p e s m args below meth c H locs cells slots ls ok rel hl hc hs
  exact lv_if_gt ok.1 ok.2.1 d ht (fun q => K1 q p e s m args below meth c H locs cells slots ls ok rel hl hc hs) (fun q => K2 q p e s m args below meth c H locs cells slots ls ok rel hl hc hs)
theorem q_if_le {x : Int32} {off : Int} {tgt : Nat} (d : decode cc pc = .ok (.ifCond .le off, 3)) (ht : (pc : Int) + off = (tgt : Int)) (K1 : x ≤ 0 → q_G Φ xb cc own M Z tgt L S h kc ks) (K2 : ¬ (x ≤ 0) → q_G Φ xb cc own M Z (pc + 3) L S h kc ks) : q_G Φ xb cc own M Z pc L (.int x :: S) h kc ks := by
  intro p e s m args below meth c H locs cells slots ls ok rel hl hc hs
  exact lv_if_le ok.1 ok.2.1 d ht (fun q => K1 q p e s m args below meth c H locs cells slots ls ok rel hl hc hs) (fun q => K2 q p e s m args below meth c H locs cells slots ls ok rel hl hc hs)
theorem q_icmp_eq {x y : Int32} {off : Int} {tgt : Nat} (d : decode cc pc = .ok (.if_icmp .eq off, 3)) (ht : (pc : Int) + off = (tgt : Int)) (K1 : x = y → q_G Φ xb cc own M Z tgt L S h kc ks) (K2 : ¬ (x = y) → q_G Φ xb cc own M Z (pc + 3) L S h kc ks) : q_G Φ xb cc own M Z pc L (.int y :: .int x :: S) h kc ks := by
  intro p e s m args below meth c H locs cells slots ls ok rel hl hc hs
  exact lv_icmp_eq ok.1 ok.2.1 d ht (fun q => K1 q p e s m args below meth c H locs cells slots ls ok rel hl hc hs) (fun q => K2 q p e s m args below meth c H locs cells slots ls ok rel hl hc hs)
theorem q_icmp_ne {x y : Int32} {off : Int} {tgt : Nat} (d : decode cc pc = .ok (.if_icmp .ne off, 3)) (ht : (pc : Int) + off = (tgt : Int)) (K1 : ¬ x = y → q_G Φ xb cc own M Z tgt L S h kc ks) (K2 : x = y → q_G Φ xb cc own M Z (pc + 3) L S h kc ks) : q_G Φ xb cc own M Z pc L (.int y :: .int x :: S) h kc ks := by
  intro p e s m args below meth c H locs cells slots ls ok rel hl hc hs
  exact lv_icmp_ne ok.1 ok.2.1 d ht (fun q => K1 q p e s m args below meth c H locs cells slots ls ok rel hl hc hs) (fun q => K2 q p e s m args below meth c H locs cells slots ls ok rel hl hc hs)
theorem q_icmp_lt {x y : Int32} {off : Int} {tgt : Nat} (d : decode cc pc = .ok (.if_icmp .lt off, 3)) (ht : (pc : Int) + off = (tgt : Int)) (K1 : x < y → q_G Φ xb cc own M Z tgt L S h kc ks) (K2 : ¬ (x < y) → q_G Φ xb cc own M Z (pc + 3) L S h kc ks) : q_G Φ xb cc own M Z pc L (.int y :: .int x :: S) h kc ks := by
  intro p e s m args below meth c H locs cells slots ls ok rel hl hc hs
  exact lv_icmp_lt ok.1 ok.2.1 d ht (fun q => K1 q p e s m args below meth c H locs cells slots ls ok rel hl hc hs) (fun q => K2 q p e s m args below meth c H locs cells slots ls ok rel hl hc hs)
theorem q_icmp_ge {x y : Int32} {off : Int} {tgt : Nat} (d : decode cc pc = .ok (.if_icmp .ge off, 3)) (ht : (pc : Int) + off = (tgt : Int)) (K1 : y ≤ x → q_G Φ xb cc own M Z tgt L S h kc ks) (K2 : ¬ (y ≤ x) → q_G Φ xb cc own M Z (pc + 3) L S h kc ks) : q_G Φ xb cc own M Z pc L (.int y :: .int x :: S) h kc ks := by
  intro p e s m args below meth c H locs cells slots ls ok rel hl hc hs
  exact lv_icmp_ge ok.1 ok.2.1 d ht (fun q => K1 q p e s m args below meth c H locs cells slots ls ok rel hl hc hs) (fun q => K2 q p e s m args below meth c H locs cells slots ls ok rel hl hc hs)
theorem q_icmp_gt {x y : Int32} {off : Int} {tgt : Nat} (d : decode cc pc = .ok (.if_icmp .gt off, 3)) (ht : (pc : Int) + off = (tgt : Int)) (K1 : y < x → q_G Φ xb cc own M Z tgt L S h kc ks) (K2 : ¬ (y < x) → q_G Φ xb cc own M Z (pc + 3) L S h kc ks) : q_G Φ xb cc own M Z pc L (.int y :: .int x :: S) h kc ks := by
  intro p e s m args below meth c H locs cells slots ls ok rel hl hc hs
  exact lv_icmp_gt ok.1 ok.2.1 d ht (fun q => K1 q p e s m args below meth c H locs cells slots ls ok rel hl hc hs) (fun q => K2 q p e s m args below meth c H locs cells slots ls ok rel hl hc hs)
theorem q_icmp_le {x y : Int32} {off : Int} {tgt : Nat} (d : decode cc pc = .ok (.if_icmp .le off, 3)) (ht : (pc : Int) + off = (tgt : Int)) (K1 : x ≤ y → q_G Φ xb cc own M Z tgt L S h kc ks) (K2 : ¬ (x ≤ y) → q_G Φ xb cc own M Z (pc + 3) L S h kc ks) : q_G Φ xb cc own M Z pc L (.int y :: .int x :: S) h kc ks := by
  intro p e s m args below meth c H locs cells slots ls ok rel hl hc hs
  exact lv_icmp_le ok.1 ok.2.1 d ht (fun q => K1 q p e s m args below meth c H locs cells slots ls ok rel hl hc hs) (fun q => K2 q p e s m args below meth c H locs cells slots ls ok rel hl hc hs)
theorem q_tableOut {dflt lo hi : Int} {offs : Array Int} {len : Nat} {x : Int32} {tgt : Nat} (d : decode cc pc = .ok (.tableswitch dflt lo hi offs, len)) (hx : x.toInt < lo ∨ hi < x.toInt) (ht : (pc : Int) + dflt = (tgt : Int)) (K : q_G Φ xb cc own M Z tgt L S h kc ks) : q_G Φ xb cc own M Z pc L (.int x :: S) h kc ks := by
  intro p e s m args below meth c H locs cells slots ls ok rel hl hc hs
  exact lv_tableOut ok.1 ok.2.1 d hx ht (K p e s m args below meth c H locs cells slots ls ok rel hl hc hs)
theorem q_tableIn {dflt lo hi : Int} {offs : Array Int} {len : Nat} {x : Int32} {off : Int} {tgt : Nat} (d : decode cc pc = .ok (.tableswitch dflt lo hi offs, len)) (h1 : ¬ x.toInt < lo) (h2 : ¬ hi < x.toInt) (ho : offs[(x.toInt - lo).toNat]? = some off) (ht : (pc : Int) + off = (tgt : Int)) (K : q_G Φ xb cc own M Z tgt L S h kc ks) : q_G Φ xb cc own M Z pc L (.int x :: S) h kc ks := by
  intro p e s m args below meth c H locs cells slots ls ok rel hl hc hs
  exact lv_tableIn ok.1 ok.2.1 d h1 h2 ho ht (K p e s m args below meth c H locs cells slots ls ok rel hl hc hs)
end QG
end
