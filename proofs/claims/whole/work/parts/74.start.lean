/-! THE START: what the made heap holds -/
def q_Wi : q_W := (0, (0, fun _ => 0, fun _ => 0), (fun f => q_fb.getD f 0, fun f => q_fw.getD f 0), (0, 0, fun i => i, fun _ => 0, fun _ => 0, fun _ => 0, fun _ _ => 0, fun _ _ => 0), (0, 0, 0, fun _ => 0))
def q_Wz : q_W := (0, (0, fun _ => 0, fun _ => 0), (fun _ => 0, fun _ => 0), (0, 0, fun i => i, fun _ => 0, fun _ => 0, fun _ => 0, fun _ _ => 0, fun _ _ => 0), (0, 0, 0, fun _ => 0))
def q_Oi : q_O := ((0, 0), (fun _ => q_Wi), (0, q_Wi), (0, fun _ => 0))
def q_Pi : q_P := ((0, 0, 0, 0), (fun _ => q_Wz), q_Wz, fun _ => 0)
def q_all (h : q_Hp) : Prop := ∀ p, 1 ≤ p → p ≤ 1073 → q_dn h p
theorem q_ok0i : q_ok0 q_Wi := ⟨fun s _ => ⟨fun p hp => absurd hp (Nat.not_lt_zero p), Nat.zero_le 240⟩, fun _ _ _ _ e => e⟩
theorem q_r0n {f : Nat} (h : 20 ≤ f) : q_r0.getD f 0 = 0 := by
  rw [List.getD_eq_getElem?_getD, List.getElem?_eq_none (by show 20 ≤ f; exact h)]; rfl
theorem q_rwi : q_rw (fun f => q_r0.getD f 0) q_Wi := by
  have kz : ∀ z, z < 6 → q_r0.getD (8 + z) 0 = q_fb.getD z 0 ∧ q_r0.getD (14 + z) 0 = q_fw.getD z 0 := by decide +kernel
  exact ⟨rfl, Nat.zero_le _, rfl, rfl, Nat.zero_le _, rfl, Nat.zero_le _, rfl, Nat.zero_le _, rfl, Nat.zero_le _, rfl, Nat.zero_le _, kz, fun k _ => ⟨q_r0n (by omega), q_r0n (by omega)⟩, fun e _ => q_r0n (by omega), fun k _ => ⟨q_r0n (by omega), q_r0n (by omega), Nat.zero_le _, q_r0n (by omega), Nat.zero_le _, fun p _ => ⟨q_r0n (by omega), q_r0n (by omega)⟩⟩⟩
theorem q_rwz : q_rw (fun _ => 0) q_Wz := ⟨rfl, Nat.zero_le _, rfl, rfl, Nat.zero_le _, rfl, Nat.zero_le _, rfl, Nat.zero_le _, rfl, Nat.zero_le _, rfl, Nat.zero_le _, fun _ _ => ⟨rfl, rfl⟩, fun _ _ => ⟨rfl, rfl⟩, fun _ _ => rfl, fun _ _ => ⟨rfl, rfl, Nat.zero_le _, rfl, Nat.zero_le _, fun _ _ => ⟨rfl, rfl⟩⟩⟩
theorem q_vali : q_val q_Wi := by
  refine ⟨fun i hi => absurd hi (Nat.not_lt_zero i), fun z h1 h2 => ?_, fun z h1 h2 => ?_, fun k hk => ⟨q_ok0i.1 k hk, fun p hp => absurd hp (Nat.not_lt_zero p)⟩, fun i hi => absurd hi (Nat.not_lt_zero i), fun i hi => absurd hi (Nat.not_lt_zero i), fun _ => rfl⟩
  · rcases (show z = 2 ∨ z = 3 ∨ z = 4 ∨ z = 5 by omega) with rfl | rfl | rfl | rfl
    · exact ⟨80, by decide, by decide, rfl⟩
    · exact ⟨90, by decide, by decide, rfl⟩
    · exact ⟨100, by decide, by decide, rfl⟩
    · exact ⟨110, by decide, by decide, rfl⟩
  · rcases (show z = 1 ∨ z = 2 ∨ z = 3 ∨ z = 4 ∨ z = 5 by omega) with rfl | rfl | rfl | rfl | rfl
    · exact ⟨1, by decide, rfl⟩
    · exact ⟨2, by decide, rfl⟩
    · exact ⟨3, by decide, rfl⟩
    · exact ⟨5, by decide, rfl⟩
    · exact ⟨8, by decide, rfl⟩
theorem q_smci : q_smc 0 q_Wi q_Wi :=
  ⟨⟨0, Nat.le_refl _, ⟨rfl, rfl, rfl, rfl, fun _ _ => ⟨rfl, rfl⟩, fun _ _ _ => rfl, fun _ _ _ => rfl, rfl, rfl, rfl, fun _ _ => rfl⟩, ⟨fun i => i, ⟨fun i hi => absurd hi (Nat.not_lt_zero i), fun i hi => absurd hi (Nat.not_lt_zero i)⟩, fun i hi => absurd hi (Nat.not_lt_zero i), fun _ j _ hj => absurd hj (Nat.not_lt_zero j)⟩, fun _ => rfl, Nat.zero_le _, rfl, fun i hi => absurd hi (Nat.not_lt_zero i), fun i hi => absurd hi (Nat.not_lt_zero i), fun i hi => absurd hi (Nat.not_lt_zero i), Nat.zero_le _, q_vali⟩, fun i hi => absurd hi (Nat.not_lt_zero i)⟩
theorem q_hsi : q_hs 0 q_Oi q_Pi := ⟨rfl, rfl, fun a ha => absurd ha (Nat.not_lt_zero a), rfl, fun e => absurd e (by decide), rfl, fun k hk => absurd hk (Nat.not_lt_zero k)⟩
section Q74
variable {h : q_Hp}
theorem q_all.z (A : q_all h) {p : Nat} (h1 : 1 ≤ p) (h2 : p ≤ 1073) (hi : q_ik p = 0) : h.I p = fun _ => 0 := funext fun f => by rw [(A p h1 h2).2 f, q_i00 hi]
theorem q_all.vB (A : q_all h) {B : Nat} (hB : q_bk B) : q_vB B h.I h.R q_Wi := by
  have b1 := q_bk1 hB
  have b2 : B + 131 ≤ 1052 := by rcases hB with rfl | rfl | ⟨j, hj, rfl⟩ <;> omega
  have z : ∀ r, r < 131 → q_ikS r = 0 → h.I (B + r) = fun _ => 0 := fun r hr hi => A.z (by omega) (by omega) ((q_ikb hB hr).trans hi)
  have z0 : h.I B = fun _ => 0 := z 0 (by decide) rfl
  have z1 := z 1 (by decide) rfl
  have z7 := z 7 (by decide) rfl
  have z129 := z 129 (by decide) rfl
  have ks : ∀ s, s < 40 → q_ikS (9 + 3 * s) = 0 ∧ q_ikS (10 + 3 * s) = 0 ∧ q_ikS (11 + 3 * s) = 0 := by decide +kernel
  refine ⟨by rw [z0]; rfl, Nat.zero_le _, by rw [z1]; rfl, Nat.zero_le _, z 2 (by decide) rfl, z 3 (by decide) rfl, ?_, ?_, by rw [z7]; rfl, Nat.zero_le _, by rw [z7]; rfl, fun i hi => ⟨(A (B + 8) (by omega) (by omega)).1 i (B + 9 + 3 * i) (by rw [q_lkX8 hB, if_pos hi]), hi⟩, fun s hs => ?_, by rw [z129]; rfl, Nat.zero_le _, by rw [z129]; rfl, Nat.zero_le _, by rw [z129]; rfl, Nat.zero_le _, z 130 (by decide) rfl⟩
  · funext f
    rw [(A (B + 5) (by omega) (by omega)).2 f]
    unfold q_i0
    rw [(q_ikb hB (r := 5) (by decide)).trans (show q_ikS 5 = 1 from rfl), if_pos rfl]
    rfl
  · funext f
    rw [(A (B + 6) (by omega) (by omega)).2 f]
    unfold q_i0
    rw [(q_ikb hB (r := 6) (by decide)).trans (show q_ikS 6 = 2 from rfl), if_neg (by decide), if_pos rfl]
    rfl
  · obtain ⟨k1, k2, k3⟩ := ks s hs
    have e1 : h.I (B + 9 + 3 * s) = fun _ => 0 := by rw [show B + 9 + 3 * s = B + (9 + 3 * s) by omega]; exact z _ (by omega) k1
    have e2 : h.I (B + 10 + 3 * s) = fun _ => 0 := by rw [show B + 10 + 3 * s = B + (10 + 3 * s) by omega]; exact z _ (by omega) k2
    have e3 : h.I (B + 11 + 3 * s) = fun _ => 0 := by rw [show B + 11 + 3 * s = B + (11 + 3 * s) by omega]; exact z _ (by omega) k3
    exact ⟨by rw [e1]; rfl, by rw [e1]; rfl, Nat.zero_le _, by rw [e1]; rfl, Nat.zero_le _, e2, e3⟩
theorem q_all.cl (A : q_all h) : q_clX h q_Wi q_Oi := by
  have z133 := A.z (p := 133) (by decide) (by decide) rfl
  have z1 := A.z (p := 1) (by decide) (by decide) rfl
  have z53 := A.z (p := 1053) (by decide) (by decide) rfl
  exact ⟨⟨A.vB (Or.inl rfl), q_ok0i, ⟨by rw [z133]; rfl, by decide, by rw [z133]; rfl, Nat.zero_le _⟩, fun j hj => ⟨A.vB (q_bkj hj), q_ok0i⟩, ⟨by rw [z1]; rfl, Nat.zero_le _, A.vB (Or.inr (Or.inl rfl)), q_ok0i⟩, by rw [z1]; rfl, Nat.zero_le _, A.z (p := 1052) (by decide) (by decide) rfl⟩, 0, by rw [z53]; rfl, Nat.zero_le _, fun d hd => absurd hd (Nat.not_lt_zero d), fun d hd => absurd hd (Nat.not_lt_zero d)⟩
theorem q_all.mr (A : q_all h) : q_mr h q_Wi q_Pi := by
  have z61 := A.z (p := 1061) (by decide) (by decide) rfl
  have e62 : h.I 1062 = fun f => q_r0.getD f 0 := funext fun f => (A 1062 (by decide) (by decide)).2 f
  refine ⟨(A 1061 (by decide) (by decide)).1 0 1062 rfl, ⟨by rw [e62]; exact q_rwi, fun _ => rfl⟩, ⟨by rw [z61]; rfl, Nat.zero_le _, by rw [z61]; rfl, by decide, by rw [z61]; rfl, Nat.zero_le _, by rw [z61]; rfl, Nat.zero_le _⟩, fun j hj => ⟨?_, fun _ => rfl⟩, ⟨?_, fun _ => rfl⟩, A.z (p := 1073) (by decide) (by decide) rfl⟩
  · rw [A.z (p := 1064 + j) (by omega) (by omega) (q_zold hj).2.2.2]; exact q_rwz
  · rw [A.z (p := 1070) (by decide) (by decide) rfl]; exact q_rwz
theorem q_all.next (A : q_all h) : q_next 0 h := ⟨q_Wi, q_Oi, q_Wi, q_Pi, A.cl, A.mr, q_smci, q_hsi⟩
theorem q_t13 : ∀ p, p < 1074 → q_tag p = 13 → p = 10 ∨ p = 929 ∨ p = 143 ∨ p = 274 ∨ p = 405 ∨ p = 536 ∨ p = 667 ∨ p = 798 := by decide +kernel
theorem q_all.Lk {Φ : q_Fx} (hst : Φ.l.stackTraces = false) (A : q_all h) (hn : h.n = 1075) : q_Lk Φ h.R h.n := by
  refine ⟨hst, hn, fun p f t e => ?_⟩
  have h1 : 1 ≤ p := by
    refine Nat.one_le_iff_ne_zero.mpr fun c => ?_
    subst c
    have e : (none : Option Nat) = some t := e
    cases e
  have h2 : p ≤ 1073 := by
    refine Nat.not_lt.mp fun c => ?_
    unfold q_lkT at e
    rw [if_neg (by omega), if_neg (by omega), if_neg (by omega), if_neg (by omega), if_neg (by omega), if_neg (by omega), if_neg (by omega), if_neg (by omega), if_neg (by omega), if_neg (by omega), if_neg (by omega)] at e
    cases e
  refine (A p h1 h2).1 f t ?_
  unfold q_lkX
  rw [if_neg fun c => ?_, if_neg fun c => ?_]
  · exact e
  · obtain ⟨rfl, rfl⟩ := c
    cases e
  · rcases q_t13 p (by omega) c with rfl | rfl | rfl | rfl | rfl | rfl | rfl | rfl
    all_goals (have e : (none : Option Nat) = some t := e; cases e)
end Q74
theorem g_law_start {Φ : q_Fx} {Z : Program → Env → State → MethodId → Array Value → List Frame → State → Prop} (hst : Φ.l.stackTraces = false) (hL : Φ.L ≤ 2048) (F : q_last1 Φ Z) {h : q_Hp} (n0 : h.n = 0) : q_G Φ true cL_law RL mL_law Z 0 [some (.ref 0), none, none, none, none, none, none, none, none, none] [] h 603072 7198826 := by
  have e0 : h.n + 1 = 1 := by rw [n0]
  refine q_new (ci := 9) (kc := 603071) (ks := 7198814) tyX9 tyX9_ok rfl q_in9 rfl q_df9 (by rw [e0]; rfl) ⟨q_W0_mem (List.mem_of_getElem? (i := 66) (by decide +kernel)) (by decide +kernel), q_ii9⟩ dL_law_0 rfl rfl ?_
  rw [e0]
  refine q_dup dL_law_3 rfl ?_
  refine q_ctor (kc := 602012) (ks := 7190243) (g_X9_init hst (h := h.grow) (n0 := e0) (hz := fun f => by rw [← e0, q_Hp.grow_I'])) wX9_init kL_148 iX9_init rfl rfl (by decide) (Nat.le_of_ble_eq_true rfl) dL_law_4 rfl rfl (fun h1 q1 => ?_) q_pst.v
  obtain ⟨-, n1, -, d1⟩ := q1
  refine q_astore_n (L' := [_, _, none, none, none, none, none, none, none, none]) dL_law_7 rfl (by decide) rfl ?_
  have e1 : h1.n + 1 = 1061 := by rw [n1]
  refine q_new (ci := 10) (kc := 602011) (ks := 7190229) tyX10 tyX10_ok rfl q_in10 rfl q_df10 (by rw [e1]; rfl) ⟨q_W0_mem (List.mem_of_getElem? (i := 1064) (by decide +kernel)) (by decide +kernel), q_ii10⟩ dL_law_8 rfl rfl ?_
  rw [e1]
  refine q_dup dL_law_11 rfl ?_
  refine q_ctor (kc := 601999) (ks := 7183364) (g_X10_init hst (h := h1.grow) (n0 := e1) (hz := fun f => by rw [← e1, q_Hp.grow_I'])) wX10_init kL_151 iX10_init rfl rfl (by decide) (Nat.le_of_ble_eq_true rfl) dL_law_12 rfl rfl (fun h2 q2 => ?_) q_pst.v
  obtain ⟨-, n2, k2, d2⟩ := q2
  have A2 : q_all h2 := fun p hp1 hp2 => by
    by_cases c : p < 1061
    · exact (d1 p hp1 (by omega)).cong ((k2 p c).1.trans (h1.grow_I (by omega))) ((k2 p c).2.trans (h1.grow_R (by omega)))
    · exact d2 p (by omega) (by omega)
  refine q_astore_n (L' := [_, _, _, none, none, none, none, none, none, none]) dL_law_15 rfl (by decide) rfl ?_
  refine q_iconst (v := nI 1) dL_law_16 (by decide) ?_
  have e2 : h2.n + 1 = 1074 := by rw [n2]
  refine q_newJ (n := 1) (kc := 601998) (ks := 7183363) (by rw [e2]; rfl) (by rw [e2]; rfl) (by decide) dL_law_17 rfl rfl ?_
  rw [e2]
  have A3 : q_all h2.grow := fun p hp1 hp2 => (A2 p hp1 hp2).cong (h2.grow_I (by omega)) (h2.grow_R (by omega))
  have e3 : h2.grow.n + 1 = 1075 := by show h2.n + 1 + 1 = 1075; omega
  generalize h2.grow = h3 at A3 e3 ⊢
  refine q_astore_n (L' := [_, _, _, _, none, none, none, none, none, none]) dL_law_19 rfl (by decide) rfl ?_
  refine q_iconst (v := nI 1) dL_law_20 (by decide) ?_
  refine q_newE (n := 1) (kc := 601997) (ks := 7183362) (by rw [e3]; rfl) (by rw [e3]; rfl) (by decide) dL_law_21 rfl rfl ?_
  rw [e3]
  have A4 : q_all h3.grow := fun p hp1 hp2 => (A3 p hp1 hp2).cong (h3.grow_I (by omega)) (h3.grow_R (by omega))
  have e4 : h3.grow.n = 1075 := e3
  generalize h3.grow = h4 at A4 e4 ⊢
  refine q_astore (L' := [_, _, _, _, _, none, none, none, none, none]) dL_law_23 rfl (by decide) rfl ?_
  refine q_iconst (v := nI 0) dL_law_25 (by decide) ?_
  refine q_istore (L' := [_, _, _, _, _, _, none, none, none, none]) dL_law_26 rfl (by decide) rfl ?_
  refine q_made ?_
  exact q_lawloop hL F 512 0 h4 601997 7183362 (by omega) (by omega) (by omega) A4.next (A4.Lk hst e4) (Nat.zero_le _)
