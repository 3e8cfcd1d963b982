/-! THE CLAIM OUT OF ONE WALK OF THE LAW'S BODY. Your part is whole_start (and what it stands on); all else here is the same for every law, but numbers. -/
def R_law : String := "TrainingDiaryLaw"
def lw_P (b : Addr) (xs : List Int32) (args : Array Value) (s : State) : Prop := args = #[.ref b] ∧ s.IntsAt b xs ∧ xs.length ≤ 260 ∧ (Jvm.Cond.and given_1 narrow_1).before args s = true
/-- what a walk over the start with the record d0 says of its end, said of the start itself -/
theorem lw_closed {s t : State} {o : Outcome} {d0 : Drawn} {L : List Loc} {k n : Nat} (hd0 : s.drawn.sameBut d0 lw_cs) (hv : ∃ v, o = .returned v) (hW : (s.setDrawn d0).WarmedH t.vm) (hs : (s.setDrawn d0).sameButNew ({ t with vm := s.vm } : State) L k n) : State.butDraws s t lw_cs (fun t1 => Framed s o t1 L k n) := by
  have h2 : t.drawn = d0 := congrArg State.drawn hs.1
  refine ⟨⟨hv, hW, State.sameButNew.setDrawn hs s.drawn⟩, ?_, by decide⟩
  rw [h2]
  exact hd0
def lw_Q (_ : Array Value) (s : State) (o : Outcome) (t : State) : Prop := o = .returned (some (.int 1)) ∧ State.butDraws s t lw_cs (fun t1 => Framed s o t1 [] 600390 7289120)
def lw_Z (below : List Frame) (a : Array Value) (s : State) : State → Prop := fun t => ∃ o, t.status = .running ∧ Ended t below o ∧ lw_Q a s o t
/-- the law's own end, with 1 on the stack, nothing written that was there before, its room as the claim has it; d0: the record of draws at this point (at the entry s.drawn: begin with 'refine W.base ?_' and 'have hd0 := Drawn.sameBut.refl s.drawn lw_cs') -/
theorem lw_ret {p : Program} {l : Launch} {e : Env} {s : State} {m : MethodId} {below : List Frame} {meth : Method} {c : Code} {b : Nat} {d0 : Drawn} (hd0 : s.drawn.sameBut d0 lw_cs) (hx : p.tables.exec = Jvm.exec) (hb : c.code = code) (hr : meth.sig.returnType = ret) (hlocks : meth.locks = false) {pc : Nat} {H : Heap} {ls : Array Slot} (hdg : decode code pc = .ok (.ireturn, 1)) : W p l e room_1 (s.setDrawn d0) m #[Value.ref b] below meth c H [] 600390 7289120 (lw_Z below #[Value.ref b] s) (F0 m pc ls [.int 1]) := by
  intro T hT X
  obtain ⟨fs, hret, hrun, hended, hW, hframe⟩ := X.leave (v := some (.int 1)) (hlocks := hlocks) (fun h => by rw [hr] at h; cases h)
  have hmeth' : T.vm.method? m = some meth := X.method'
  refine ⟨T.setFrames fs, ?_, .returned (some (.int 1)), hrun, hended, rfl, lw_closed hd0 ⟨_, rfl⟩ hW hframe⟩
  jvm_step X.here [X.here.top, hx, hb, hdg, hmeth', hr, ret, narrow_b1]
  (try refine ⟨rfl, ?_⟩); (try refine ⟨rfl, ?_⟩)
  first | (intro acts; rw [hret _ acts rfl rfl rfl]) | rw [hret _ _ rfl rfl rfl]
  exact Steps.refl _
/-- what holds at the law's entry: the machine, the code, the tables' words (any of lw_tbl by 'hts w (by decide +kernel)'), the script of L ints xs at the cell b, what the Statement gives of the start (any of its parts by flat_of_before) -/
def lw_At (p : Program) (s : State) (m : MethodId) (meth : Method) (c : Code) (b L : Nat) (xs : Nat → Int32) : Prop :=
  p.tables.exec = Jvm.exec ∧ c.code = code ∧ meth.sig.returnType = ret ∧ c.maxLocals = 12 ∧ s.vm.findClass R_law = some m.cls ∧ (∀ w ∈ lw_tbl, w.before #[Value.ref b] s = true) ∧ va_X b L xs s s.heap ∧ b < s.heap.size ∧ meth.locks = false ∧ (Jvm.Cond.and given_1 narrow_1).before #[Value.ref b] s = true
set_option maxHeartbeats 4000000 in
set_option maxRecDepth 100000 in
theorem whole_start {p : Program} {e : Env} {s : State} {m : MethodId} {below : List Frame} {meth : Method} {c : Code} (l : Launch) (hflags : l.flags = flags0) {b L : Nat} {xs : Nat → Int32} (hL : L ≤ 260) (C0 : lw_At p s m meth c b L xs) (htb : c.exceptionTable.toList = []) : W p l e room_1 s m #[Value.ref b] below meth c s.heap [] 0 0 (lw_Z below #[Value.ref b] s) (entryFrame m ([Value.ref b] : List Value).toArray 12) := by
  obtain ⟨hx, hb, hr, hml, hown, hts, hX, hbl, hlocks, hgv⟩ := id C0
  have hst : l.stackTraces = false := by unfold Launch.stackTraces; rw [hflags]; decide +kernel
  have hq : ∀ w ∈ q_W0, w.before #[Value.ref b] s = true := fun w hw => hts w (List.mem_filter.mp hw).1
  obtain ⟨c0, i0, k0⟩ := u_known (N := 3) (n := 3) hq q_in0 (hq _ q_ii0.1)
  obtain ⟨c1, i1, k1⟩ := u_known (N := 3) (n := 3) hq q_in1 (hq _ q_ii1.1)
  obtain ⟨c2, i2, k2⟩ := u_known (N := 4) (n := 4) hq q_in2 (hq _ q_ii2.1)
  obtain ⟨c3, i3, k3⟩ := u_known (N := 5) (n := 5) hq q_in3 (hq _ q_ii3.1)
  obtain ⟨c4, i4, k4⟩ := u_known (N := 3) (n := 3) hq q_in4 (hq _ q_ii4.1)
  obtain ⟨c5, i5, k5⟩ := u_known (N := 5) (n := 5) hq q_in5 (hq _ q_ii5.1)
  obtain ⟨c6, i6, k6⟩ := u_known (N := 3) (n := 3) hq q_in6 (hq _ q_ii6.1)
  obtain ⟨c7, i7, k7⟩ := u_known (N := 3) (n := 3) hq q_in7 (hq _ q_ii7.1)
  obtain ⟨c8, i8, k8⟩ := u_known (N := 2) (n := 2) hq q_in8 (hq _ q_ii8.1)
  obtain ⟨c9, i9, k9⟩ := u_known (N := 12) (n := 12) hq q_in9 (hq _ q_ii9.1)
  obtain ⟨D, hD⟩ : ∃ D : va_G, ∀ (k : Nat) (q : vw_C), q_cl[k]? = some q → u_Kn s q.1 q.2.1 q.2.2 (D.1 k) (D.2 k) := by
    have key : ∀ k : Nat, ∃ x : ClassId × (Nat → Nat), ∀ q : vw_C, q_cl[k]? = some q → u_Kn s q.1 q.2.1 q.2.2 x.1 x.2 := by
      intro k
      match k with
      | 0 => exact ⟨(c0, i0), fun q hq => by cases hq; exact k0⟩
      | 1 => exact ⟨(c1, i1), fun q hq => by cases hq; exact k1⟩
      | 2 => exact ⟨(c2, i2), fun q hq => by cases hq; exact k2⟩
      | 3 => exact ⟨(c3, i3), fun q hq => by cases hq; exact k3⟩
      | 4 => exact ⟨(c4, i4), fun q hq => by cases hq; exact k4⟩
      | 5 => exact ⟨(c5, i5), fun q hq => by cases hq; exact k5⟩
      | 6 => exact ⟨(c6, i6), fun q hq => by cases hq; exact k6⟩
      | 7 => exact ⟨(c7, i7), fun q hq => by cases hq; exact k7⟩
      | 8 => exact ⟨(c8, i8), fun q hq => by cases hq; exact k8⟩
      | 9 => exact ⟨(c9, i9), fun q hq => by cases hq; exact k9⟩
      | k + 10 => exact ⟨(c0, i0), fun q hq => by simp [q_cl] at hq⟩
    exact ⟨(fun k => (Classical.choose (key k)).1, fun k => (Classical.choose (key k)).2), fun k q hq => Classical.choose_spec (key k) q hq⟩
  have w12 : (Cond.arrayClass .int).before #[Value.ref b] s = true := hq _ q_w2.1
  have w11 : (Cond.arrayClass .char).before #[Value.ref b] s = true := hq _ q_w2.2
  obtain ⟨a11, y11, p11, f11, g11, d11⟩ := Cond.arrayClass_spec w11
  obtain ⟨a12, y12, p12, f12, g12, d12⟩ := Cond.arrayClass_spec w12
  obtain ⟨p13, a13, y13, n13, -, g13, d13, f13⟩ := Cond.arrayOver_spec (hts (Cond.arrayOver (.object RX3)) (List.mem_of_getElem? (i := 98) (by decide +kernel)))
  obtain ⟨p14, a14, y14, n14, -, g14, d14, f14⟩ := Cond.arrayOver_spec (hts (Cond.arrayOver (.object RX5)) (List.mem_of_getElem? (i := 198) (by decide +kernel)))
  obtain ⟨p15, a15, y15, n15, -, g15, d15, f15⟩ := arrayOverA_spec (hts (Cond.arrayOver (.array .int)) (List.mem_of_getElem? (i := 956) (by decide +kernel)))
  obtain ⟨Φ, el, eb, ebb, eD, eL, exs, e11, e12, e13, e14, e15⟩ : ∃ Φ : q_Fx, Φ.l = l ∧ Φ.b = b ∧ Φ.bb = s.heap.size ∧ Φ.D = D ∧ Φ.L = L ∧ Φ.xs = xs ∧ Φ.cy 11 = a11 ∧ Φ.cy 12 = a12 ∧ Φ.cy 13 = a13 ∧ Φ.cy 14 = a14 ∧ Φ.cy 15 = a15 :=
    ⟨(l, b, s.heap.size, D, (fun k => if k = 11 then a11 else if k = 12 then a12 else if k = 13 then a13 else if k = 14 then a14 else a15), L, xs, 0), rfl, rfl, rfl, rfl, rfl, rfl, rfl, rfl, rfl, rfl, rfl⟩
  have hK : va_K Φ.D q_cl (q_tys Φ) s := by
    refine ⟨by rw [eD]; exact hD, fun k q hk => ?_⟩
    match k with
    | 0 => cases hk; rw [e11]; exact ⟨fun n z => ⟨(fun k h => by cases h), y11, g11, p11, d11⟩, f11⟩
    | 1 => cases hk; rw [e12]; exact ⟨fun n z => ⟨(fun k h => by cases h), y12, g12, p12, d12⟩, f12⟩
    | 2 => cases hk; rw [e13]; exact ⟨fun n z => ⟨(fun k h => by cases h), y13, g13, p13, d13⟩, y13, p13, g13, d13, n13, f13⟩
    | 3 => cases hk; rw [e14]; exact ⟨fun n z => ⟨(fun k h => by cases h), y14, g14, p14, d14⟩, y14, p14, g14, d14, n14, f14⟩
    | 4 => cases hk; rw [e15]; exact ⟨fun n z => ⟨(fun k h => by cases h), y15, g15, p15, d15⟩, f15⟩
    | k + 5 => exact absurd hk (by simp)
  have hAn : ∀ a : Nat, a < s.heap.size → ¬ q_A Φ a := fun a ha h => by
    have h : Φ.bb ≤ a := h
    omega
  have hE : q_Ext Φ s s.heap := q_Ext_start hts hgv hAn (by rw [e12]; exact f12)
  have hl := lv_entry ([.ref b]) (n := 12) (Nat.le_of_ble_eq_true rfl)
  rw [lg_entry_eq]
  generalize (lg_sl ([.ref b]) ++ List.replicate (12 - (lg_sl ([.ref b])).length) Slot.unset).toArray = ls at hl ⊢
  have hl : lv_has ls 12 [(0, .ref b)] := hl
  have eab : q_ad Φ 0 = b := (if_pos rfl).trans eb
  have hl2 : lv_has ls mL_law.nL (q_mk Φ 0 [some (.ref 0), none, none, none, none, none, none, none, none, none, none, none]) := by
    have e9 : q_mk Φ 0 [some (.ref 0), none, none, none, none, none, none, none, none, none, none, none] = [(0, .ref (q_ad Φ 0))] := rfl
    rw [e9, eab]
    exact hl
  have F : ∀ x9, q_last1 (Φ.at x9) (fun _ _ s9 _ args9 below9 t9 => args9 = #[Value.ref b] ∧ s9.heap.size = Φ.bb → lw_Z below9 #[Value.ref b] s9 t9) := by
    intro x9 L9 h kc ks p e s9 m args below meth c H locs cells slots ls ok rel hl hc hs
    by_cases cc : args = #[Value.ref b] ∧ s9.heap.size = Φ.bb
    · obtain ⟨rfl, hsz⟩ := cc
      have r1 : mL_law.rm.cells = 600390 := rfl
      have r2 : mL_law.rm.slots = 7289120 := rfl
      have key : W p Φ.l e room_1 s9 m #[Value.ref b] below meth c H locs cells slots (lw_Z below #[Value.ref b] s9) (F0 m 837 ls [.int 1]) := by
        refine va_forget (fun q hq => by rw [hsz]; exact rel.2.2.1.2.2 q hq) ?_
        refine W.widen (k := 600390) (n := 7289120) (by omega) (by omega) ?_
        exact W.base (lw_ret (Drawn.sameBut.refl s9.drawn lw_cs) ok.1 ok.2.1 ok.2.2.2.2.2.1 ok.2.2.2.2.2.2.1 dL_law_837)
      intro T hT X
      obtain ⟨t, st, hz⟩ := key T hT X
      exact ⟨t, st, fun _ => hz⟩
    · intro T hT X
      exact ⟨_, Steps.refl _, fun h9 => absurd h9 cc⟩
  have G := g_law_start (Φ := Φ) (by rw [el]; exact hst) (by rw [eL]; exact Nat.le_trans hL (by decide)) F (h := ((fun _ _ => 0), (fun _ _ => none), [], (fun _ _ => 0), 0)) rfl rfl p e s m #[Value.ref b] below meth c s.heap [] 0 0 ls ⟨hx, hb, hml, hown, hq, hr, hlocks, (fun h9 => by cases h9), htb, by rw [el]; exact hst⟩
    ⟨hK, fun k q hk => by simp [q_ws, q_Hp.n, q_Hp.J] at hk, va_S.rf, by rw [eb, eL, exs]; exact hX, ⟨by rw [eb, ebb]; exact hbl, List.nodup_nil, fun x hx => absurd hx List.not_mem_nil, fun x hx => absurd hx List.not_mem_nil, by decide⟩, Nat.le_of_eq ebb, hE, fun e9 => by cases e9⟩ hl2 rfl rfl
  rw [el] at G
  intro T hT X
  obtain ⟨t, st, hz⟩ := G T hT X
  exact ⟨t, st, hz ⟨rfl, ebb.symm⟩⟩
