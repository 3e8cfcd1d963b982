/-! ROWS THAT THE LAW NEEDS BESIDE -/
section Q55
variable {Φ : q_Fx} {xb : Bool} {cc : ByteArray} {own : String} {M : q_M} {Z : Program → Env → State → MethodId → Array Value → List Frame → State → Prop} {pc : Nat} {L L' : List (Option Value)} {S : List Value} {h : q_Hp} {kc ks : Nat}
theorem q_iushr {x y : Int32} (d : decode cc pc = .ok (.iushr, 1)) (K : q_G Φ xb cc own M Z (pc + 1) L (.int ((x.toUInt32 >>> (y.toUInt32 &&& Int32.toUInt32 31)).toInt32) :: S) h kc ks) : q_G Φ xb cc own M Z pc L (.int y :: .int x :: S) h kc ks := by
  intro p e s m args below meth c H locs cells slots ls ok rel hl hc hs
  exact lv_iushr ok.1 ok.2.1 d rfl (K p e s m args below meth c H locs cells slots ls ok rel hl hc hs)
theorem q_ixor {x y : Int32} (d : decode cc pc = .ok (.ixor, 1)) (K : q_G Φ xb cc own M Z (pc + 1) L (.int (x ^^^ y) :: S) h kc ks) : q_G Φ xb cc own M Z pc L (.int y :: .int x :: S) h kc ks := by
  intro p e s m args below meth c H locs cells slots ls ok rel hl hc hs
  exact lv_ixor ok.1 ok.2.1 d (K p e s m args below meth c H locs cells slots ls ok rel hl hc hs)
theorem q_ior {x y : Int32} (d : decode cc pc = .ok (.ior, 1)) (K : q_G Φ xb cc own M Z (pc + 1) L (.int (x ||| y) :: S) h kc ks) : q_G Φ xb cc own M Z pc L (.int y :: .int x :: S) h kc ks := by
  intro p e s m args below meth c H locs cells slots ls ok rel hl hc hs
  exact lv_ior ok.1 ok.2.1 d (K p e s m args below meth c H locs cells slots ls ok rel hl hc hs)
theorem q_sldN {k : Nat} (hk : k < Φ.L) (hL : Φ.L ≤ 2048) (d : decode cc pc = .ok (.iaload, 1)) (K : q_G Φ xb cc own M Z (pc + 1) L (.int (Φ.xs k) :: S) h kc ks) : q_G Φ xb cc own M Z pc L (.int (nI k) :: .ref 0 :: S) h kc ks := q_sld d (vp_in_nI hk (by omega)) (by rw [nI_clamp (by omega)]; exact K)
theorem q_slenN (d : decode cc pc = .ok (.arraylength, 1)) (K : q_G Φ xb cc own M Z (pc + 1) L (.int (nI Φ.L) :: S) h kc ks) : q_G Φ xb cc own M Z pc L (.ref 0 :: S) h kc ks := q_slen d K
/-- less is enough -/
theorem q_less {kc' ks' : Nat} (h1 : kc' ≤ kc) (h2 : ks' ≤ ks) (K : q_G Φ false cc own M Z pc L S h kc' ks') : q_G Φ false cc own M Z pc L S h kc ks := by
  intro p e s m args below meth c H locs cells slots ls ok rel hl hc hs
  exact W.widen (k := M.rm.cells - kc') (n := M.rm.slots - ks') (by omega) (by omega) (K p e s m args below meth c H locs (M.rm.cells - kc') (M.rm.slots - ks') ls ok ⟨rel.1, rel.2.1, rel.2.2.1, rel.2.2.2.1, rel.2.2.2.2.1, rel.2.2.2.2.2.1, rel.2.2.2.2.2.2.1, fun e9 => by cases e9⟩ hl (by omega) (by omega))
/-- a loop whose room falls -/
theorem q_loopK {ι : Type} (μ : ι → Nat) (P : ι → Prop) (Lf : ι → List (Option Value)) (hf : ι → q_Hp) (kf sf : ι → Nat) (step : ∀ i, P i → (∀ j, P j → μ j < μ i → q_G Φ xb cc own M Z pc (Lf j) S (hf j) (kf j) (sf j)) → q_G Φ xb cc own M Z pc (Lf i) S (hf i) (kf i) (sf i)) (i0 : ι) (h0 : P i0) (hL : q_sub (Lf i0) L) (hh : h = hf i0) (hk : kc = kf i0) (hs : ks = sf i0) : q_G Φ xb cc own M Z pc L S h kc ks := by
  subst hk hs
  refine q_to ?_ hL hh
  have key : ∀ (k : Nat) (i : ι), μ i = k → P i → q_G Φ xb cc own M Z pc (Lf i) S (hf i) (kf i) (sf i) := by
    intro k
    induction k using Nat.strongRecOn with
    | _ k ih =>
      intro i hk hi
      exact step i hi fun j hj hl => ih (μ j) (by omega) j rfl hj
  exact key _ i0 rfl h0
theorem q_hAA {s : State} {H : Heap} {locs : List Loc} {cells : Nat} (rel : q_Rel Φ xb h s H locs cells) : ∀ q, s.heap.size ≤ q → q_A Φ q := fun q hq => Nat.le_trans rel.2.2.2.2.2.1 hq
/-- a row of 900 ints more -/
theorem q_newD (d : decode cc pc = .ok (.newarray .int, 2)) {kc0 ks0 : Nat} (hkc : kc0 = kc + 1) (hks : ks0 = ks + 900) (K : ∀ c, 2000 ≤ c → c % 4 = 0 → c ∉ h.J → q_G Φ false cc own M Z (pc + 2) L (.ref c :: S) (h.add c) kc ks) : q_G Φ false cc own M Z pc L (.int (nI 900) :: S) h kc0 ks0 := by
  subst hkc hks
  intro p e s m args below meth c H locs cells slots ls ok rel hl hc hs
  have hts := ok.2.2.2.2.1
  have hd := rel.2.2.2.2.1.2
  refine va_newa (D := Φ.D) (cl := q_cl) (tys := q_tys Φ) (ws := q_ws Φ h) (atype := .int) (ty := .int) (a0 := (900, .inl fun _ => 0)) ok.1 ok.2.1 (hts _ q_w2.1) rfl rel.1 rel.2.1 (q_D hd) rel.2.2.1 (q_hAA rel) (fun _ => rfl) (nI_pos (by omega)) (nI_clamp (by omega)) (by decide) (by omega) (by omega) d (fun q cA H1 hK1 hP1 hD1 hS1 => ?_)
  have e1 : cA = Φ.cy 12 := by
    have h1 := (hK1.2 (q_tys Φ).length (cA, .int) (by rw [List.getElem?_append_right (Nat.le_refl _), Nat.sub_self]; rfl)).2
    have h2 := (rel.1.2 1 (Φ.cy 12, .int) rfl).2
    exact Option.some.inj (h1.symm.trans h2)
  subst e1
  have hlen : (q_ws Φ h).length = h.n + h.J.length := q_ws_len Φ h
  have hq : (q_ws Φ h ++ [(q, (.inl (Φ.cy 12, 900, .inl fun _ => 0) : va_E))])[h.n + h.J.length]? = some (q, .inl (Φ.cy 12, 900, .inl fun _ => 0)) := by rw [List.getElem?_append_right (by omega), hlen, Nat.sub_self]; rfl
  have ea : q_ad Φ (2000 + 4 * q) = q := by rw [q_ad_dyn Φ (by omega)]; omega
  have hnot : q ∉ q_as Φ h.n h.J := fun hm => by
    obtain ⟨i, hi⟩ := List.getElem?_of_mem hm
    have hil := (List.getElem?_eq_some_iff.mp hi).1
    rw [← q_ws_as, List.length_map, hlen] at hil
    rw [← q_ws_as, List.getElem?_map] at hi
    obtain ⟨y, hy1, hy2⟩ := Option.map_eq_some_iff.mp hi
    have := hD1.1 i _ y _ (by rw [List.getElem?_append_left (by omega)]; exact hy1) hq hy2
    omega
  have hcJ : 2000 + 4 * q ∉ h.J := fun hm => hnot (by rw [← ea]; exact List.mem_append_right _ (List.mem_map_of_mem hm))
  have ht : q_tag (2000 + 4 * q) = 16 := by rw [q_tag_dyn (by omega), if_neg (by omega)]
  have hl9 : q_len (2000 + 4 * q) = 900 := by rw [q_len_dyn (by omega), if_pos (by omega)]
  have hcell : q_cell Φ (h.add (2000 + 4 * q)) (2000 + 4 * q) = .inl (Φ.cy 12, 900, .inl fun _ => 0) := by rw [q_cell_dI Φ _ ht, hl9, h.add_Is]
  have hold : ∀ j, j ≠ 2000 + 4 * q → q_cell Φ (h.add (2000 + 4 * q)) j = q_cell Φ h j := fun j hj => q_cell_eq Φ (h.add_I hj) (h.add_R hj)
  have K1 := K (2000 + 4 * q) (by omega) (by omega) hcJ p e s m args below meth c H1 locs (cells + 1) (slots + 900) ls ok ⟨rel.1, q_P_mem hP1 fun y hy => ?_, hS1, rel.2.2.2.1, ⟨rel.2.2.2.2.1.1, ?_⟩, rel.2.2.2.2.2.1, rel.2.2.2.2.2.2.1, fun e9 => by cases e9⟩ hl (by omega) (by omega)
  · have e2 : (Value.ref (2000 + 4 * q) :: S).map (q_cv Φ) = Value.ref q :: S.map (q_cv Φ) := by
      show Value.ref (q_ad Φ (2000 + 4 * q)) :: _ = _
      rw [ea]
    rw [e2] at K1
    exact K1
  · unfold q_ws at hy
    rcases List.mem_append.mp hy with hy | hy
    · obtain ⟨j, hj, rfl⟩ := List.mem_map.mp hy
      have hj : j < h.n := List.mem_range.mp hj
      have hn := hd.2.2.2
      rw [hold (j + 1) (by omega)]
      refine List.mem_append_left _ (List.mem_of_getElem? (i := j) ?_)
      have := q_ws_at Φ h (k := j + 1) (by omega) (by omega)
      rwa [Nat.add_sub_cancel] at this
    · obtain ⟨a, ha, rfl⟩ := List.mem_map.mp hy
      rcases List.mem_append.mp ha with ha | ha
      · rw [hold a (fun e9 => hcJ (by rw [← e9]; exact ha))]
        obtain ⟨i, hi⟩ := List.getElem?_of_mem ha
        exact List.mem_append_left _ (List.mem_of_getElem? (q_ws_atJ Φ h hi))
      · rw [List.mem_singleton.mp ha, hcell, ea]
        exact List.mem_append_right _ (List.mem_singleton_self _)
  · show q_dok Φ h.n (h.J ++ [2000 + 4 * q])
    refine ⟨?_, fun x hx => ?_, fun x hx => ?_, hd.2.2.2⟩
    · rw [q_as_add, List.map_cons, List.map_nil, ea]
      exact List.nodup_append.mpr ⟨hd.1, List.nodup_cons.mpr ⟨List.not_mem_nil, List.nodup_nil⟩, fun x hx y hy e9 => hnot (by rw [← List.mem_singleton.mp hy, ← e9]; exact hx)⟩
    · rw [q_as_add, List.map_cons, List.map_nil, ea] at hx
      rcases List.mem_append.mp hx with hx | hx
      · exact hd.2.1 x hx
      · rw [List.mem_singleton.mp hx]; exact hD1.2 _ _ hq
    · rcases List.mem_append.mp hx with hx | hx
      · exact hd.2.2.1 x hx
      · rw [List.mem_singleton.mp hx]; omega
theorem q_sR {y : MethodName} {cc' : ByteArray} {M' : q_M} {index n : Nat} {As S0 : List Value} {P : Option Value → q_Hp → Prop} {kc0 ks0 : Nat} (hC : q_Ct Φ xb y cc' M' As h (q_ex P)) (hw : q_cw y cc' M' n) (hl9 : Cond.methodLink own index y ∈ q_W0) (hst : Cond.static y ∈ q_W0)
    (hR : q_fits M' M) (hn : As.length = n) (hS0 : As.reverse ++ S = S0) (hcat : (S.map fun v => v.category).sum ≤ 8) (d : decode cc pc = .ok (.invokestatic index, 3)) (hkc : kc0 = kc + M'.rm.cells) (hks : ks0 = ks + M'.rm.slots)
    (K : ∀ v h', P v h' → q_G Φ xb cc own M Z (pc + 3) L (v.toList ++ S) h' kc ks) : q_G Φ xb cc own M Z pc L S0 h kc0 ks0 := by
  subst hkc hks
  exact q_callS hC hw hl9 hst hR hn hS0 hcat d (fun v' h' ⟨_, q, hp⟩ => by cases q; exact K _ _ hp) (fun E h' ⟨_, q, _⟩ => nomatch q)
end Q55
