/-! THE LAW'S LOOP -/
theorem q_and63 (x : Int32) : ∃ j : Nat, j ≤ 63 ∧ x &&& nI 63 = nI j := by
  refine ⟨(x &&& nI 63).toBitVec.toNat, ?_, ?_⟩
  · show (x.toBitVec &&& (nI 63).toBitVec).toNat ≤ 63
    rw [BitVec.toNat_and]
    exact Nat.and_le_right
  · have h : (x &&& nI 63).toBitVec.toNat ≤ 63 := by
      show (x.toBitVec &&& (nI 63).toBitVec).toNat ≤ 63
      rw [BitVec.toNat_and]
      exact Nat.and_le_right
    apply Int32.toInt_inj.mp
    rw [nI_toInt (by omega)]
    show (x &&& nI 63).toBitVec.toInt = _
    rw [BitVec.toInt_eq_toNat_of_lt (by omega)]
theorem q_swI {j : Nat} (hj : j ≤ 63) : (nI j).toInt = (j : Int) := nI_toInt (by omega)
/-- what is left at the end -/
def q_last1 (Φ : q_Fx) (Z : Program → Env → State → MethodId → Array Value → List Frame → State → Prop) : Prop := ∀ L h kc ks, q_G Φ false cL_law RL mL_law Z 2794 L [] h kc ks
theorem q_lawloop {Φ : q_Fx} {Z : Program → Env → State → MethodId → Array Value → List Frame → State → Prop} (hL : Φ.L ≤ 2048) (F : q_last1 Φ Z) : ∀ n i h kc ks, Φ.L < 4 * i + 4 * n + 4 → 4 * n ≤ kc → 24 * n ≤ ks → q_next i h → q_Lk Φ h.R h.n → 4 * i ≤ Φ.L → q_G Φ false cL_law RL mL_law Z 28 (q_L0 i) [] h kc ks := by
  intro n
  induction n with
  | zero =>
    intro i h kc ks h1 h2 h3 nx K hi
    refine q_iload dL_law_28 rfl ?_
    refine q_aload_n dL_law_30 rfl ?_
    refine q_slen dL_law_31 ?_
    refine q_iconst (v := nI 4) dL_law_32 (by decide) ?_
    refine q_isub dL_law_33 ?_
    refine q_icmp_gt (tgt := 2794) dL_law_34 rfl (fun _ => F _ _ _ _) (fun e => absurd ?_ e)
    rw [Int32.lt_iff_toInt_lt, nI_toInt (by omega)]
    rw [show (Int32.ofNat Φ.L - nI 4).toInt = (Φ.L : Int) - (4 : Nat) from pk_sub_toInt (by omega) (by omega)]
    omega
  | succ n ih =>
    intro i h kc ks h1 h2 h3 nx K hi
    refine q_iload dL_law_28 rfl ?_
    refine q_aload_n dL_law_30 rfl ?_
    refine q_slen dL_law_31 ?_
    refine q_iconst (v := nI 4) dL_law_32 (by decide) ?_
    refine q_isub dL_law_33 ?_
    refine q_icmp_gt (tgt := 2794) dL_law_34 rfl (fun _ => F _ _ _ _) (fun e => ?_)
    rw [Int32.lt_iff_toInt_lt, nI_toInt (by omega), show (Int32.ofNat Φ.L - nI 4).toInt = (Φ.L : Int) - (4 : Nat) from pk_sub_toInt (by omega) (by omega)] at e
    have hi4 : 4 * i + 4 ≤ Φ.L := by omega
    refine q_aload_n dL_law_37 rfl ?_
    refine q_iload dL_law_38 rfl ?_
    refine q_sldN (by omega) hL dL_law_40 ?_
    refine q_bipush (v := nI 63) dL_law_41 (by decide) ?_
    refine q_iand dL_law_43 ?_
    obtain ⟨j, hj, ej⟩ := q_and63 (Φ.xs (4 * i))
    refine q_tv ej ?_
    obtain ⟨W, O, m, P, inv⟩ := nx
    obtain ⟨kc, rfl⟩ : ∃ k, kc = k + 4 := ⟨kc - 4, by omega⟩
    obtain ⟨ks, rfl⟩ : ∃ k, ks = k + 24 := ⟨ks - 24, by omega⟩
    have end1 : ∀ h2 c kc' ks', q_next (i + 1) h2 → q_Lk Φ h2.R h2.n → kc ≤ kc' → ks ≤ ks' → c = i → q_G Φ false cL_law RL mL_law Z 2788 (q_L0 c) [] h2 kc' ks' := by
      intro h2 c kc' ks' nx2 K2 g1 g2 ec
      subst ec
      refine q_iincN (n := 4) rfl dL_law_2788 rfl (L' := q_L0 (c + 1)) rfl (by decide) rfl ?_
      refine q_goto (tgt := 28) dL_law_2791 rfl ?_
      exact ih (c + 1) h2 kc' ks' (by omega) (by omega) (by omega) nx2 K2 (by omega)
    have G : q_goes Φ Z i (i + 1) kc ks := fun h2 kc' ks' a b c d => end1 h2 i kc' ks' a b c d rfl
    by_cases hj5 : 50 < j
    · refine q_tableOut (tgt := 2788) dL_law_44 (Or.inr (by rw [q_swI hj]; omega)) rfl ?_
      exact G h (kc + 4) (ks + 24) ⟨W, O, m, P, inv.1, inv.2.1, inv.2.2.1.le (Nat.le_succ i), inv.2.2.2.le (Nat.le_succ i)⟩ K (by omega) (by omega)
    · have : j = 0 ∨ j = 1 ∨ j = 2 ∨ j = 3 ∨ j = 4 ∨ j = 5 ∨ j = 6 ∨ j = 7 ∨ j = 8 ∨ j = 9 ∨ j = 10 ∨ j = 11 ∨ j = 12 ∨ j = 13 ∨ j = 14 ∨ j = 15 ∨ j = 16 ∨ j = 17 ∨ j = 18 ∨ j = 19 ∨ j = 20 ∨ j = 21 ∨ j = 22 ∨ j = 23 ∨ j = 24 ∨ j = 25 ∨ j = 26 ∨ j = 27 ∨ j = 28 ∨ j = 29 ∨ j = 30 ∨ j = 31 ∨ j = 32 ∨ j = 33 ∨ j = 34 ∨ j = 35 ∨ j = 36 ∨ j = 37 ∨ j = 38 ∨ j = 39 ∨ j = 40 ∨ j = 41 ∨ j = 42 ∨ j = 43 ∨ j = 44 ∨ j = 45 ∨ j = 46 ∨ j = 47 ∨ j = 48 ∨ j = 49 ∨ j = 50 := by omega
      rcases this with rfl | rfl | rfl | rfl | rfl | rfl | rfl | rfl | rfl | rfl | rfl | rfl | rfl | rfl | rfl | rfl | rfl | rfl | rfl | rfl | rfl | rfl | rfl | rfl | rfl | rfl | rfl | rfl | rfl | rfl | rfl | rfl | rfl | rfl | rfl | rfl | rfl | rfl | rfl | rfl | rfl | rfl | rfl | rfl | rfl | rfl | rfl | rfl | rfl | rfl | rfl
      · exact q_tableIn (off := 220) (tgt := 264) dL_law_44 (by decide) (by decide) (by decide) rfl (g_law_0 K inv hi4 hL G)
      · exact q_tableIn (off := 276) (tgt := 320) dL_law_44 (by decide) (by decide) (by decide) rfl (g_law_1 K inv hi4 hL G)
      · exact q_tableIn (off := 289) (tgt := 333) dL_law_44 (by decide) (by decide) (by decide) rfl (g_law_2 K inv hi4 hL G)
      · exact q_tableIn (off := 357) (tgt := 401) dL_law_44 (by decide) (by decide) (by decide) rfl (g_law_3 K inv hi4 hL G)
      · exact q_tableIn (off := 413) (tgt := 457) dL_law_44 (by decide) (by decide) (by decide) rfl (g_law_4 K inv hi4 hL G)
      · exact q_tableIn (off := 426) (tgt := 470) dL_law_44 (by decide) (by decide) (by decide) rfl (g_law_5 K inv hi4 hL G)
      · exact q_tableIn (off := 482) (tgt := 526) dL_law_44 (by decide) (by decide) (by decide) rfl (g_law_6 K inv hi4 hL G)
      · exact q_tableIn (off := 550) (tgt := 594) dL_law_44 (by decide) (by decide) (by decide) rfl (g_law_7 K inv hi4 hL G)
      · exact q_tableIn (off := 606) (tgt := 650) dL_law_44 (by decide) (by decide) (by decide) rfl (g_law_8 K inv hi4 hL G)
      · exact q_tableIn (off := 674) (tgt := 718) dL_law_44 (by decide) (by decide) (by decide) rfl (g_law_9 K inv hi4 hL G)
      · exact q_tableIn (off := 730) (tgt := 774) dL_law_44 (by decide) (by decide) (by decide) rfl (g_law_10 K inv hi4 hL G)
      · exact q_tableIn (off := 798) (tgt := 842) dL_law_44 (by decide) (by decide) (by decide) rfl (g_law_11 K inv hi4 hL G)
      · exact q_tableIn (off := 854) (tgt := 898) dL_law_44 (by decide) (by decide) (by decide) rfl (g_law_12 K inv hi4 hL G)
      · exact q_tableIn (off := 934) (tgt := 978) dL_law_44 (by decide) (by decide) (by decide) rfl (g_law_13 K inv hi4 hL G)
      · exact q_tableIn (off := 990) (tgt := 1034) dL_law_44 (by decide) (by decide) (by decide) rfl (g_law_14 K inv hi4 hL G)
      · exact q_tableIn (off := 1058) (tgt := 1102) dL_law_44 (by decide) (by decide) (by decide) rfl (g_law_15 K inv hi4 hL G)
      · exact q_tableIn (off := 1114) (tgt := 1158) dL_law_44 (by decide) (by decide) (by decide) rfl (g_law_16 K inv hi4 hL G)
      · exact q_tableIn (off := 1127) (tgt := 1171) dL_law_44 (by decide) (by decide) (by decide) rfl (g_law_17 K inv hi4 hL G)
      · exact q_tableIn (off := 1183) (tgt := 1227) dL_law_44 (by decide) (by decide) (by decide) rfl (g_law_18 K inv hi4 hL G)
      · exact q_tableIn (off := 1239) (tgt := 1283) dL_law_44 (by decide) (by decide) (by decide) rfl (g_law_19 K inv hi4 hL G)
      · exact q_tableIn (off := 1295) (tgt := 1339) dL_law_44 (by decide) (by decide) (by decide) rfl (g_law_20 K inv hi4 hL G)
      · exact q_tableIn (off := 1363) (tgt := 1407) dL_law_44 (by decide) (by decide) (by decide) rfl (g_law_21 K inv hi4 hL G)
      · exact q_tableIn (off := 1419) (tgt := 1463) dL_law_44 (by decide) (by decide) (by decide) rfl (g_law_22 K inv hi4 hL G)
      · exact q_tableIn (off := 1475) (tgt := 1519) dL_law_44 (by decide) (by decide) (by decide) rfl (g_law_23 K inv hi4 hL G)
      · exact q_tableIn (off := 1553) (tgt := 1597) dL_law_44 (by decide) (by decide) (by decide) rfl (g_law_24 K inv hi4 hL G)
      · exact q_tableIn (off := 1594) (tgt := 1638) dL_law_44 (by decide) (by decide) (by decide) rfl (g_law_25 K inv hi4 hL G)
      · exact q_tableIn (off := 1650) (tgt := 1694) dL_law_44 (by decide) (by decide) (by decide) rfl (g_law_26 K inv hi4 hL G)
      · exact q_tableIn (off := 1706) (tgt := 1750) dL_law_44 (by decide) (by decide) (by decide) rfl (g_law_27 K inv hi4 hL G)
      · exact q_tableIn (off := 1762) (tgt := 1806) dL_law_44 (by decide) (by decide) (by decide) rfl (g_law_28 K inv hi4 hL G)
      · exact q_tableIn (off := 1818) (tgt := 1862) dL_law_44 (by decide) (by decide) (by decide) rfl (g_law_29 K inv hi4 hL G)
      · exact q_tableIn (off := 1874) (tgt := 1918) dL_law_44 (by decide) (by decide) (by decide) rfl (g_law_30 K inv hi4 hL G)
      · exact q_tableIn (off := 1887) (tgt := 1931) dL_law_44 (by decide) (by decide) (by decide) rfl (g_law_31 K inv hi4 hL G)
      · exact q_tableIn (off := 1943) (tgt := 1987) dL_law_44 (by decide) (by decide) (by decide) rfl (g_law_32 K inv hi4 hL G)
      · exact q_tableIn (off := 1999) (tgt := 2043) dL_law_44 (by decide) (by decide) (by decide) rfl (g_law_33 K inv hi4 hL G)
      · exact q_tableIn (off := 2055) (tgt := 2099) dL_law_44 (by decide) (by decide) (by decide) rfl (g_law_34 K inv hi4 hL G)
      · exact q_tableIn (off := 2111) (tgt := 2155) dL_law_44 (by decide) (by decide) (by decide) rfl (g_law_35 K inv hi4 hL G)
      · exact q_tableIn (off := 2167) (tgt := 2211) dL_law_44 (by decide) (by decide) (by decide) rfl (g_law_36 K inv hi4 hL G)
      · exact q_tableIn (off := 2223) (tgt := 2267) dL_law_44 (by decide) (by decide) (by decide) rfl (g_law_37 K inv hi4 hL G)
      · exact q_tableIn (off := 2279) (tgt := 2323) dL_law_44 (by decide) (by decide) (by decide) rfl (g_law_38 K inv hi4 hL G)
      · exact q_tableIn (off := 2292) (tgt := 2336) dL_law_44 (by decide) (by decide) (by decide) rfl (g_law_39 K inv hi4 hL G)
      · exact q_tableIn (off := 2348) (tgt := 2392) dL_law_44 (by decide) (by decide) (by decide) rfl (g_law_40 K inv hi4 hL G)
      · exact q_tableIn (off := 2404) (tgt := 2448) dL_law_44 (by decide) (by decide) (by decide) rfl (g_law_41 K inv hi4 hL G)
      · exact q_tableIn (off := 2448) (tgt := 2492) dL_law_44 (by decide) (by decide) (by decide) rfl (g_law_42 K inv hi4 hL G)
      · exact q_tableIn (off := 2461) (tgt := 2505) dL_law_44 (by decide) (by decide) (by decide) rfl (g_law_43 K inv hi4 hL G)
      · exact q_tableIn (off := 2474) (tgt := 2518) dL_law_44 (by decide) (by decide) (by decide) rfl (g_law_44 K inv hi4 hL G)
      · exact q_tableIn (off := 2518) (tgt := 2562) dL_law_44 (by decide) (by decide) (by decide) rfl (g_law_45 K inv hi4 hL G)
      · exact q_tableIn (off := 2531) (tgt := 2575) dL_law_44 (by decide) (by decide) (by decide) rfl (g_law_46 K inv hi4 hL G)
      · exact q_tableIn (off := 2587) (tgt := 2631) dL_law_44 (by decide) (by decide) (by decide) rfl (g_law_47 K inv hi4 hL G)
      · exact q_tableIn (off := 2643) (tgt := 2687) dL_law_44 (by decide) (by decide) (by decide) rfl (g_law_48 K inv hi4 hL G)
      · exact q_tableIn (off := 2687) (tgt := 2731) dL_law_44 (by decide) (by decide) (by decide) rfl (g_law_49 K inv hi4 hL G)
      · exact q_tableIn (off := 2700) (tgt := 2744) dL_law_44 (by decide) (by decide) (by decide) rfl (g_law_50 K inv hi4 hL G)
