/-! THE LAW'S MAKING -/
def mL_law : q_M := (12, ret, false, [], room_1)
/-- the diary's first address, x -/
def q_Fx.at (Φ : q_Fx) (x : Nat) : q_Fx := (Φ.1, Φ.2.1, Φ.2.2.1, Φ.2.2.2.1, Φ.2.2.2.2.1, Φ.2.2.2.2.2.1, Φ.2.2.2.2.2.2.1, x)
def q_Fx.at2 (Φ : q_Fx) (x : Nat) : q_Fx := (Φ.1, Φ.2.1, x, Φ.2.2.2.1, Φ.2.2.2.2.1, Φ.2.2.2.2.2.1, Φ.2.2.2.2.2.2.1, x)
theorem q_Z_lt {C n d : String} {v : Value} {A A' : Nat → Prop} {U : State} {H : Heap} (hA : ∀ q, A' q → A q) (h : va_Z C n d v A U H) : va_Z C n d v A' U H := by
  obtain ⟨cf, kf, fi, f, a, cell, h1, h2, h3, h4, h5, h6, h7, h8⟩ := h
  exact ⟨cf, kf, fi, f, a, cell, h1, h2, h3, h4, h5, h6, h7, fun q => h8 (hA a q)⟩
theorem q_Zq_lt {C n d : String} {A A' : Nat → Prop} {U : State} {H : Heap} (hA : ∀ q, A' q → A q) (h : vx_Zq C n d A U H) : vx_Zq C n d A' U H := by
  obtain ⟨h1, c, k, i, f, a, cell, g1, g2, g3, g4, g5, g6, g7, g8, g9, g10⟩ := h
  refine ⟨?_, c, k, i, f, a, cell, g1, g2, g3, g4, g5, g6, g7, g8, g9, fun q => g10 (hA a q)⟩
  rcases h1 with h1 | ⟨t, h1⟩
  · exact Or.inl (q_Z_lt hA h1)
  · exact Or.inr ⟨t, q_Z_lt hA h1⟩
theorem q_Ext_at2 {Φ : q_Fx} {x : Nat} {s : State} {H : Heap} (hx : Φ.bb ≤ x) (h : q_Ext Φ s H) : q_Ext (Φ.at2 x) s H := by
  have hA : ∀ q, q_A (Φ.at2 x) q → q_A Φ q := fun q (hq : x ≤ q) => Nat.le_trans hx hq
  obtain ⟨h1, h2, h3, h4, h5, h6, h7, ⟨t8, c8, z8, e8, n8, r8⟩, ⟨t9, c9, z9, e9, n9, r9⟩, h10⟩ := h
  exact ⟨q_Zq_lt hA h1, q_Zq_lt hA h2, h3, h4, h5, h6, h7, ⟨t8, c8, q_Z_lt hA z8, e8, fun q => n8 (hA _ q), r8⟩, ⟨t9, c9, q_Z_lt hA z9, e9, fun q => n9 (hA _ q), r9⟩, h10⟩
/-- the diary's places of h', the law's rows of h -/
def q_mix (h h' : q_Hp) : q_Hp := ((fun p => if p < 2000 then h'.I p else h.I p), (fun p => if p < 2000 then h'.R p else h.R p), h.J, h'.E, h'.n)
def q_h0 : q_Hp := ((fun _ _ => 0), (fun _ _ => none), [], (fun _ _ => 0), 0)
theorem q_ad_at (Φ : q_Fx) {x a : Nat} (ha : 2000 ≤ a) : q_ad (Φ.at x) a = q_ad Φ a := by rw [q_ad_dyn _ ha, q_ad_dyn _ ha]
theorem q_cell_at (Φ : q_Fx) {x a : Nat} {h h' : q_Hp} (ha : 2000 ≤ a) (hR : ∀ i o, h.R a i = some o → 2000 ≤ o) : q_cell (Φ.at x) (q_mix h h') a = q_cell Φ h a := by
  have eI : (q_mix h h').I a = h.I a := if_neg (by omega)
  have eR : (q_mix h h').R a = h.R a := if_neg (by omega)
  rw [q_cell_eq (Φ.at x) eI eR]
  have ht := q_tag_dyn ha
  by_cases h2 : a % 4 = 2
  · rw [if_pos h2] at ht
    rw [q_cell_dR _ _ ht, q_cell_dR _ _ ht]
    refine congrArg (fun z => (Sum.inl (Φ.cy 15, q_len a, Sum.inr (Sum.inr (Sum.inr (Sum.inr z)))) : va_E)) (funext fun i => ?_)
    cases e : h.R a i with
    | none => rfl
    | some o => exact congrArg some (q_ad_at Φ (hR i o e))
  · rw [if_neg h2] at ht
    rw [q_cell_dI _ _ ht, q_cell_dI _ _ ht]
    rfl
theorem q_kc10 : Cond.classLink RL 10 RX9 ∈ q_W0 ∧ Cond.instantiable RX9 12 ∈ q_W0 ∧ Cond.initialized RX9 ∈ q_W0 := ⟨q_W0_mem (List.mem_of_getElem? (i := 31) (by decide +kernel)) (by decide +kernel), q_ii9⟩
theorem q_newInit {Φ : q_Fx} {Z : Program → Env → State → MethodId → Array Value → List Frame → State → Prop} {L : List (Option Value)} (hst : Φ.l.stackTraces = false) {h : q_Hp} {kc ks kc0 ks0 : Nat} (n0 : h.n = 0) (hJR : ∀ a ∈ h.J, ∀ i o, h.R a i = some o → 2000 ≤ o) (hL : ∀ x, q_mk (Φ.at x) 0 L = q_mk Φ 0 L) (hkc : kc0 = kc + 1060) (hks : ks0 = ks + 8583)
    (K : ∀ x h', h'.n = 1060 → h'.J = h.J → (∀ p, 2000 ≤ p → h'.I p = h.I p ∧ h'.R p = h.R p) → (∀ p, 1 ≤ p → p ≤ 1060 → q_dn h' p) → q_G (Φ.at x) false cL_law RL mL_law Z 21 L [.ref 1] h' kc ks) : q_G Φ false cL_law RL mL_law Z 14 L [] h kc0 ks0 := by
  subst hkc hks
  intro p e s m args below meth c H locs cells slots ls ok rel hl hc hs
  obtain ⟨hK, hP, hS, hX, ⟨hb1, hd⟩, hb2, hE, -⟩ := rel
  have hts := ok.2.2.2.2.1
  have hKn := hK.1 9 (RX9, TX9, 12) rfl
  have r1 : mX9_init.rm.cells = 1059 := rfl
  have r2 : mX9_init.rm.slots = 8571 := rfl
  refine W.newcK ok.1 ok.2.1 ok.2.2.2.1 (hts _ q_kc10.1) (hts _ q_kc10.2.1) (hts _ q_kc10.2.2) rfl dL_law_14 (by omega) (by omega) hKn.2.1 rfl fun H1 kC hkC e1 z1 o1 => ?_
  suffices key : W p Φ.l e mL_law.rm s m args below meth c H1 locs (cells + 1) (slots + 12) (Z p e s m args below) (F0 m 18 ls [.ref H.size, .ref H.size]) from lv_dup ok.1 ok.2.1 (pc := 17) dL_law_17 rfl key
  have hbH : Φ.bb ≤ H.size := Nat.le_trans hb2 hS.1
  have hS1 : va_S (q_A Φ) s.heap H1 locs := ⟨Nat.le_trans hS.1 (by omega), fun x h1 h2 => (o1 x (Nat.lt_of_lt_of_le h1 hS.1)).trans (hS.2.1 x h1 h2), hS.2.2⟩
  have hA2 : ∀ q, q_A (Φ.at2 H.size) q → q_A Φ q := fun q (hq : H.size ≤ q) => Nat.le_trans hbH hq
  have P1 : va_P Φ.D q_cl (q_ws (Φ.at2 H.size) q_h0.grow) H1 := by
    intro k x hk
    have hz : k < 1 := (List.getElem?_eq_some_iff.mp hk).1
    rw [show k = 0 by omega] at hk
    have e9 : (q_ad (Φ.at2 H.size) 1, q_cell (Φ.at2 H.size) q_h0.grow 1) = x := Option.some.inj hk
    subst e9
    rw [q_cell_obj _ _ (show q_tag 1 < 11 by decide)]
    refine ⟨_, rfl, (u_born tyX9 hts q_in9 hKn hkC e1 tyX9_ok).to fun j hj => ?_⟩
    unfold vp_V
    rw [List.getD_eq_getElem?_getD, q_fs_get (Φ.at2 H.size) q_h0.grow (show j < (q_kinds (q_tag 1)).length from hj)]
    exact q_df9 j hj
  have hcb := q_cb ok wX9_init kL_275 (by decide)
  rw [show mX9_init.ret = none from rfl] at hcb
  have hC2 : Met Φ.l yX9_init (Cond.code yX9_init cX9_init mX9_init.nL none :: q_W0) mX9_init.rm (q_Pc (Φ.at2 H.size) true [.ref 1] q_h0.grow) (q_Qc (Φ.at2 H.size) true mX9_init.rm.cells (q_ex (q_pst 1 1059 q_h0.grow))) mX9_init.rm.cells mX9_init.rm.slots (q_A (Φ.at2 H.size)) := g_X9_init (Φ := Φ.at2 H.size) hst (h := q_h0.grow) rfl (fun f => congrFun q_h0.grow_I' f)
  have hr := va_runI (As := []) (b := H.size) (rest := [.ref H.size]) (g := F0 m 18 ls [.ref H.size, .ref H.size]) ⟨ok.1, ok.2.1, ok.2.2.1, ok.2.2.2.1, ok.2.2.2.2.1⟩ hC2 ⟨hcb, rfl, hts _ iX9_init⟩
    ⟨q_blind (Φ.at2 H.size) true _ q_h0.grow, fun U hU hW => ⟨rfl, va_K.moved hW.alike hK, by rw [hU]; exact P1, by
        rw [hU]
        have hbs : Φ.b < s.heap.size := Nat.lt_of_lt_of_le hb1 hb2
        exact va_X.moved hW.alike (hX.kept (hS1.2.1 _ hbs (Nat.not_le.mpr hb1))),
      ⟨Nat.lt_of_lt_of_le hb1 hbH, List.nodup_cons.mpr ⟨List.not_mem_nil, List.nodup_nil⟩, fun x hx => Nat.le_of_eq (List.mem_singleton.mp hx).symm, fun x hx => absurd hx List.not_mem_nil, by decide⟩, by rw [hU]; show H.size ≤ H1.size; omega, by rw [hU]; exact q_Ext_at2 hbH (q_Ext_warm hW hS1 hE), fun _ => ⟨by rw [hU]; exact z1, rfl, rfl⟩⟩⟩
    (cells := cells + 1) (slots := slots + 12) (locs := locs) (e := e) (below := below) (meth := meth) rfl rfl hl.1 rfl (lv_room (Nat.le_of_ble_eq_true rfl)) dL_law_18 ⟨by omega, by omega⟩
  intro T hT X
  obtain ⟨v, st₀, t, T', Lo, h0e, X', hLo, e1', e2', ⟨v', h', hv, hq, hP', hd', hF, hx'⟩, st⟩ := hr T hT X
  obtain ⟨v9, ev9, q1, q2, q3, q4⟩ := hq
  cases ev9
  subst q1
  cases hv
  have hJ' : h'.J = [] := (hx' rfl).2.2
  obtain ⟨k1, k2, k3⟩ := vx_keep (A0 := q_A Φ) h0e e1' hS1 (fun q _ hq => hA2 q hq) hA2 hLo hF
  have hA1 : va_P Φ.D q_cl (q_ws (Φ.at2 H.size) h') T'.heap := by rw [e1']; exact hP'
  have hltB : ∀ (k : Nat) (y : Nat × va_E), (q_ws Φ h)[k]? = some y → y.1 < H.size := fun k y hy => (hP k y hy).lt
  have hB1 : va_P Φ.D q_cl (q_ws Φ h) T'.heap := hP.kept fun k y hy => (k2 y.1 (by have := hltB k y hy; omega) (Nat.not_le.mpr (hltB k y hy))).trans (o1 y.1 (hltB k y hy))
  have hJ2 := hd.2.2.1
  have hP2 : va_P Φ.D q_cl (q_ws (Φ.at H.size) (q_mix h h')) T'.heap := by
    refine q_P_mem (va_P.app hA1 hB1) fun y hy => ?_
    unfold q_ws at hy
    rcases List.mem_append.mp hy with hy | hy
    · obtain ⟨j, hj, rfl⟩ := List.mem_map.mp hy
      have hj2 : j < h'.n := List.mem_range.mp hj
      refine List.mem_append_left _ (List.mem_append_left _ (List.mem_map.mpr ⟨j, hj, ?_⟩))
      rw [q_cell_eq (Φ.at H.size) (h := h') (h' := q_mix h h') (k := j + 1) (if_pos (by omega)) (if_pos (by omega))]
      rfl
    · obtain ⟨a, ha, rfl⟩ := List.mem_map.mp hy
      refine List.mem_append_right _ (List.mem_append_right _ (List.mem_map.mpr ⟨a, ha, ?_⟩))
      rw [q_ad_at Φ (hJ2 a ha), q_cell_at Φ (hJ2 a ha) (hJR a ha)]
  have hasJ : h.J.map (q_ad (Φ.at H.size)) = h.J.map (q_ad Φ) := List.map_congr_left fun a ha => q_ad_at Φ (hJ2 a ha)
  have hBlt : ∀ x ∈ h.J.map (q_ad Φ), x < H.size := fun x hx => by
    obtain ⟨a, ha, rfl⟩ := List.mem_map.mp hx
    obtain ⟨i, hi⟩ := List.getElem?_of_mem ha
    exact hltB _ _ (q_ws_atJ Φ h hi)
  have hAs : q_as (Φ.at2 H.size) h'.n h'.J = (List.range h'.n).map (fun j => q_ad (Φ.at H.size) (j + 1)) := by
    rw [hJ']; exact List.append_nil _
  have hd2 : q_dok (Φ.at H.size) h'.n h.J := by
    have a1 := hd'.1
    have a2 := hd'.2.1
    rw [hAs] at a1 a2
    have b1 := hd.1
    have b2 := hd.2.1
    have eB : q_as Φ h.n h.J = h.J.map (q_ad Φ) := by rw [n0]; rfl
    rw [eB] at b1 b2
    have eC : q_as (Φ.at H.size) h'.n h.J = (List.range h'.n).map (fun j => q_ad (Φ.at H.size) (j + 1)) ++ h.J.map (q_ad Φ) := by rw [← hasJ]; rfl
    refine ⟨?_, fun x hx => ?_, hJ2, by omega⟩
    · rw [eC]
      refine List.nodup_append.mpr ⟨a1, b1, fun x hx y hy e9 => ?_⟩
      have h1 : H.size ≤ x := a2 x hx
      have h2 := hBlt y hy
      omega
    · rw [eC] at hx
      rcases List.mem_append.mp hx with hx | hx
      · exact hA2 x (a2 x hx)
      · exact b2 x hx
  obtain ⟨t2, s1, b1⟩ := K H.size (q_mix h h') q2 rfl (fun p hp => ⟨if_neg (by omega), if_neg (by omega)⟩) (fun p h1 h2 => (q4 p h1 (by omega)).cong (if_pos (by omega)) (if_pos (by omega))) p e s m args below meth c T'.heap (locs ++ Lo) (cells + 1 + mX9_init.rm.cells) (slots + 12 + mX9_init.rm.slots) ls ok
    ⟨hK, hP2, k3, hX, ⟨hb1, hd2⟩, hb2, hE, fun e9 => by cases e9⟩ (by rw [hL]; exact hl) (by omega) (by omega) T' rfl X'
  exact ⟨t2, st t2 s1, b1⟩
