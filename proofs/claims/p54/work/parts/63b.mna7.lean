/-! int[7][1], OF THE LAW'S OWN ROWS -/
def q_Hp.mna7 (h : q_Hp) (x : Nat) : q_Hp := ((fun p => if 2000 + 4 * x ≤ p then (fun _ => 0) else h.I p), (fun p => if p = 2000 + 4 * x + 2 then (fun i => if i < 7 then some (2000 + 4 * (x + 1 + i) + 1) else none) else if 2000 + 4 * x ≤ p then (fun _ => none) else h.R p), h.J ++ (2000 + 4 * x + 2) :: (List.range 7).map (fun j => 2000 + 4 * (x + 1 + j) + 1), h.E, h.n)
theorem q_Hp.mna7_o (h : q_Hp) {x p : Nat} (hp : p < 2000 + 4 * x) : (h.mna7 x).I p = h.I p ∧ (h.mna7 x).R p = h.R p := ⟨if_neg (by omega), (if_neg (by omega)).trans (if_neg (by omega))⟩
theorem q_Hp.mna7_I (h : q_Hp) {x p : Nat} (hp : 2000 + 4 * x ≤ p) : (h.mna7 x).I p = fun _ => 0 := if_pos hp
theorem q_Hp.mna7_R (h : q_Hp) {x : Nat} : (h.mna7 x).R (2000 + 4 * x + 2) = fun i => if i < 7 then some (2000 + 4 * (x + 1 + i) + 1) else none := if_pos rfl
section QM7
variable {Φ : q_Fx} {xb : Bool} {cc : ByteArray} {own : String} {M : q_M} {Z : Program → Env → State → MethodId → Array Value → List Frame → State → Prop} {pc : Nat} {L L' : List (Option Value)} {S : List Value} {h h' : q_Hp} {kc ks : Nat}
theorem q_as_lt {H : Heap} (hP : va_P Φ.D q_cl (q_ws Φ h) H) : ∀ y ∈ q_as Φ h.n h.J, y < H.size := fun y hy => by
  rw [← q_ws_as] at hy
  obtain ⟨w, hw, rfl⟩ := List.mem_map.mp hy
  obtain ⟨i, hi⟩ := List.getElem?_of_mem hw
  exact (hP i w hi).lt
theorem q_mna7 {index : Nat} (hw : Cond.classLink own index "[[I" ∈ q_W0) (d : decode cc pc = .ok (.multianewarray index 2, 4)) {kc0 ks0 : Nat} (hkc : kc0 = kc + 8) (hks : ks0 = ks + 14)
    (K : ∀ x, (∀ a ∈ h.J, a < 2000 + 4 * x) → q_G Φ false cc own M Z (pc + 4) L (.ref (2000 + 4 * x + 2) :: S) (h.mna7 x) kc ks) : q_G Φ false cc own M Z pc L (.int (nI 1) :: .int (nI 7) :: S) h kc0 ks0 := by
  subst hkc hks
  intro p e s m args below meth c H locs cells slots ls ok rel hl hc hs
  have hts := ok.2.2.2.2.1
  have hE := rel.2.2.2.2.2.2.1
  have hd := rel.2.2.2.2.1.2
  have e6 : (nI 7).toNatClampNeg = 7 := nI_clamp (by omega)
  have e8 : (nI 1).toNatClampNeg = 1 := nI_clamp (by omega)
  intro T hT X
  obtain ⟨vm₁, cA, comp, -, fA, fC, -, -, X', step⟩ := X.multianewarray2F ok.1 (ty := .int) ok.2.2.2.1 (index := index) (by
      rw [show ("[" ++ (FieldType.array FieldType.int).toString) = "[[I" by decide +kernel]; exact hts _ hw) (va_AOA.use hE.2.2.2.2.2.2.1) (hts _ q_w2.1) (g := F0 m pc ls (.int (nI 1) :: .int (nI 7) :: S.map (q_cv Φ))) rfl (by rw [ok.2.1]; exact d) rfl (nI_pos (by omega)) (nI_pos (by omega)) (by rw [e6]; decide) (by rw [e8]; decide) (by rw [e8]; decide) rfl rfl (by rw [e6]; omega) (by rw [e6, e8]; omega)
  rw [e6, e8] at X' step
  have eA : cA = Φ.cy 15 := Option.some.inj (fA.symm.trans (rel.1.2 4 (Φ.cy 15, .array .int) rfl).2)
  have eC : comp = Φ.cy 12 := Option.some.inj (fC.symm.trans (show s.vm.findClass (FieldType.array .int).toString = some (Φ.cy 12) by
    rw [show (FieldType.array FieldType.int).toString = "[" ++ FieldType.int.toString by decide +kernel]; exact (rel.1.2 1 (Φ.cy 12, .int) rfl).2))
  subst eA eC
  generalize hF : Jvm.Free.Multi.fill (T.setVm vm₁) (Φ.cy 15) (Φ.cy 12) 7 1 (defaultValue .int) 7 = F at X' step
  have hTh : (T.setVm vm₁).heap = H := hT
  obtain ⟨f1, f2, -, -⟩ := Jvm.Free.Multi.fill_facts (T.setVm vm₁) (Φ.cy 15) (Φ.cy 12) 7 1 (defaultValue .int) 7
  rw [hF, hTh] at f1 f2
  have hold : ∀ x : Nat, x < H.size → F.heap[x]? = H[x]? := fun x hx => by
    have := Jvm.Free.Multi.fill_old (T.setVm vm₁) (Φ.cy 15) (Φ.cy 12) 7 1 (defaultValue .int) (a := x) (by rw [hTh]; exact hx) 7
    rw [hF, hTh] at this
    exact this
  have hrow : ∀ j : Nat, j < 7 → F.heap[H.size + 1 + j]? = some (vp_cell (Φ.cy 12) (1, .inl fun _ => 0)) := fun j hj => by
    have := Jvm.Free.Multi.fill_inner (T.setVm vm₁) (Φ.cy 15) (Φ.cy 12) 7 1 (defaultValue .int) 7 j hj
    rw [hF, hTh] at this
    rw [this]
    show some ({ cls := Φ.cy 12, slots := Array.replicate 1 (defaultValue .int), vm := .none } : Cell) = _
    rw [arrV_new]; rfl
  have hlt := q_as_lt rel.2.1
  have hJlt : ∀ a ∈ h.J, a < 2000 + 4 * H.size := fun a ha => by
    have h1 := hlt (q_ad Φ a) (List.mem_append_right _ (List.mem_map_of_mem ha))
    rw [q_ad_dyn Φ (hd.2.2.1 a ha)] at h1
    omega
  have hn2 := hd.2.2.2
  have hall : ∀ y ∈ q_ws Φ (h.mna7 H.size), va_at Φ.D q_cl y F.heap := by
    intro y hy
    have old : ∀ k, k < 2000 + 4 * H.size → (q_ad Φ k, q_cell Φ h k) ∈ q_ws Φ h → va_at Φ.D q_cl (q_ad Φ k, q_cell Φ (h.mna7 H.size) k) F.heap := fun k hk hm => by
      obtain ⟨i, hi⟩ := List.getElem?_of_mem hm
      rw [q_cell_eq Φ (h.mna7_o hk).1 (h.mna7_o hk).2]
      exact (rel.2.1 i _ hi).kept (hold _ ((rel.2.1 i _ hi).lt))
    unfold q_ws at hy
    rcases List.mem_append.mp hy with hy | hy
    · obtain ⟨j, hj, rfl⟩ := List.mem_map.mp hy
      have hj2 : j < h.n := List.mem_range.mp hj
      exact old (j + 1) (by omega) (List.mem_append_left _ (List.mem_map.mpr ⟨j, hj, rfl⟩))
    · obtain ⟨a, ha, rfl⟩ := List.mem_map.mp hy
      rcases List.mem_append.mp ha with ha | ha
      · exact old a (hJlt a ha) (List.mem_append_right _ (List.mem_map.mpr ⟨a, ha, rfl⟩))
      rcases List.mem_cons.mp ha with rfl | ha
      · rw [q_cell_dR Φ _ (by rw [q_tag_dyn (by omega), if_pos (by omega)]), h.mna7_R, q_len_dyn (by omega), if_neg (by omega), if_pos (by omega), q_ad_dyn Φ (by omega)]
        show F.heap[(2000 + 4 * H.size + 2 - 2000) / 4]? = some (vp_cell _ _)
        rw [show (2000 + 4 * H.size + 2 - 2000) / 4 = H.size by omega, f2, vr_outer]
        rw [vp_cell_q]
        congr 2
        funext j
        by_cases hj : j < 7
        · rw [if_pos hj]
          dsimp only
          rw [if_pos hj, Option.map_some, q_ad_dyn Φ (by omega)]
          congr 2; omega
        · rw [if_neg hj]
          dsimp only
          rw [if_neg hj]; rfl
      · obtain ⟨j, hj, rfl⟩ := List.mem_map.mp ha
        have hj7 : j < 7 := List.mem_range.mp hj
        rw [q_cell_dI Φ _ (by rw [q_tag_dyn (by omega), if_neg (by omega)]), h.mna7_I (by omega), q_len_dyn (by omega), if_neg (by omega), if_neg (by omega), q_ad_dyn Φ (by omega)]
        show F.heap[(2000 + 4 * (H.size + 1 + j) + 1 - 2000) / 4]? = some (vp_cell _ _)
        rw [show (2000 + 4 * (H.size + 1 + j) + 1 - 2000) / 4 = H.size + 1 + j by omega]
        exact hrow j hj7
  have hS1 : va_S (q_A Φ) s.heap F.heap locs := ⟨by have := rel.2.2.1.1; omega, fun x h1 h2 => (hold x (Nat.lt_of_lt_of_le h1 rel.2.2.1.1)).trans (rel.2.2.1.2.1 x h1 h2), rel.2.2.1.2.2⟩
  have hbH : Φ.bb ≤ H.size := Nat.le_trans rel.2.2.2.2.2.1 rel.2.2.1.1
  have hN : ((2000 + 4 * H.size + 2) :: (List.range 7).map (fun j => 2000 + 4 * (H.size + 1 + j) + 1)).map (q_ad Φ) = H.size :: (List.range 7).map (fun j => H.size + 1 + j) := by
    rw [List.map_cons, List.map_map, q_ad_dyn Φ (by omega)]
    congr 1
    · omega
    · refine List.map_congr_left fun j _ => ?_
      show q_ad Φ (2000 + 4 * (H.size + 1 + j) + 1) = _
      rw [q_ad_dyn Φ (by omega)]; omega
  have hd2 : q_dok Φ h.n (h.mna7 H.size).J := by
    refine ⟨?_, fun y hy => ?_, fun y hy => ?_, hd.2.2.2⟩
    · show (q_as Φ h.n (h.J ++ _)).Nodup
      rw [q_as_add, hN]
      refine List.nodup_append.mpr ⟨hd.1, List.nodup_cons.mpr ⟨fun hm => ?_, ?_⟩, fun a ha b hb e9 => ?_⟩
      · obtain ⟨j, -, hj⟩ := List.mem_map.mp hm
        omega
      · exact List.Pairwise.map _ (fun a b hab => by show ¬ _; omega) (List.nodup_range (n := 7))
      · have h1 := hlt a ha
        rcases List.mem_cons.mp hb with h2 | h2
        · omega
        · obtain ⟨j, -, hj⟩ := List.mem_map.mp h2
          omega
    · have hy : y ∈ q_as Φ h.n (h.J ++ _) := hy
      rw [q_as_add, hN] at hy
      rcases List.mem_append.mp hy with hy | hy
      · exact hd.2.1 y hy
      · rcases List.mem_cons.mp hy with h2 | h2
        · omega
        · obtain ⟨j, -, hj⟩ := List.mem_map.mp h2
          omega
    · rcases List.mem_append.mp hy with hy | hy
      · exact hd.2.2.1 y hy
      · rcases List.mem_cons.mp hy with h2 | h2
        · omega
        · obtain ⟨j, -, hj⟩ := List.mem_map.mp h2
          omega
  obtain ⟨t2, b1, b2⟩ := K H.size hJlt p e s m args below meth c F.heap locs (cells + 1 + 7) (slots + 7 + 7 * 1) ls ok ⟨rel.1, fun k y hk => hall y (List.mem_of_getElem? hk), hS1, rel.2.2.2.1, ⟨rel.2.2.2.2.1.1, hd2⟩, rel.2.2.2.2.2.1, hE, fun e9 => by cases e9⟩ hl (by omega) (by omega) F rfl X'
  refine ⟨t2, step t2 ?_, b2⟩
  have e3 : (Value.ref (2000 + 4 * H.size + 2) :: S).map (q_cv Φ) = Value.ref H.size :: S.map (q_cv Φ) := by
    show Value.ref (q_ad Φ (2000 + 4 * H.size + 2)) :: _ = _
    rw [q_ad_dyn Φ (by omega), show (2000 + 4 * H.size + 2 - 2000) / 4 = H.size by omega]
  rw [e3] at b1
  rw [hT]
  exact b1
end QM7
