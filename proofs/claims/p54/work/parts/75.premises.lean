theorem q_len_lt {args : Array Value} {s : State} {t : Term} {a : Addr} {cell : Cell} {v : Value} (ht : t.eval args s none [] s = some (.ref a)) (harr : s.arrayAt? a = some cell) (hv : (Term.length t).eval args s none [] s = some v) : cell.slots.size < 2 ^ 31 := by
  simp only [Term.eval, ht, harr, Option.bind_eq_bind, Option.bind_some] at hv
  by_cases hlt : cell.slots.size < 2147483648
  · exact hlt
  · simp [hlt] at hv
/-- a static row of ints, as the Statement gives it -/
theorem q_St_of {Φ : q_Fx} {s : State} {args : Array Value} {nm : String} {f : List Int32} (h0 : (Cond.exactly (.static "TrainingDiary" nm "[I") "[I").before args s = true) (h1 : (Cond.eq (.length (.static "TrainingDiary" nm "[I")) (.int (Int32.ofNat f.length))).before args s = true) (hf : f.length < 2 ^ 31)
    (h2 : ∀ k, k < f.length → (Cond.eq (.elem (.static "TrainingDiary" nm "[I") (.int (Int32.ofNat k))) (.int (f.getD k 0))).before args s = true) (hl : (Cond.laysStatic "TrainingDiary" nm "[I").before args s = true) (hi : (Cond.initialized "TrainingDiary").before args s = true) (hA : ∀ a : Nat, a < s.heap.size → ¬ q_A Φ a) (hcy : s.vm.findClass "[I" = some (Φ.cy 12)) : q_St Φ nm f s s.heap := by
  obtain ⟨a, cC, cell, k, ht, hfc, hcell, hk, hstat, hcls, -⟩ := Cond.exactly_spec h0
  have hv := Cond.eq_int h1 rfl
  obtain ⟨a', cell', ht', harr, hlen⟩ := Term.length_spec hv
  cases ht.symm.trans ht'
  obtain ⟨hcell', hun, hst2, -⟩ := State.arrayAt?_spec harr
  cases hcell.symm.trans hcell'
  have hlt : cell.slots.size < 2 ^ 31 := q_len_lt ht harr hv
  have hsz : cell.slots.size = f.length := by
    have e1 : Int32.ofNat cell.slots.size = Int32.ofNat f.length := by
      injection hlen with e
      exact e.symm
    have e2 := congrArg Int32.toInt e1
    rw [Int32.toInt_ofNat_small hlt, Int32.toInt_ofNat_small hf] at e2
    omega
  have hx : ∀ k, k < f.length → cell.slots[k]? = some (.int (f.getD k 0)) := by
    intro k hk
    have hv2 := Cond.eq_int (h2 k hk) rfl
    obtain ⟨a2, j, cell2, ht2, hj, harr2, -, hslot⟩ := Term.elem_spec hv2
    cases ht.symm.trans ht2
    cases harr.symm.trans harr2
    have hj : some (Value.int (Int32.ofNat k)) = some (Value.int j) := hj
    cases hj
    rwa [show (Int32.ofNat k).toNatClampNeg = k from nI_clamp (by omega)] at hslot
  refine ⟨a, cell, va_Zref hl hi ht hA, hcell, hA a (Array.getElem?_eq_some_iff.mp hcell).1, ?_, fun k e => ?_, hun, ?_⟩
  · rw [hcls]; exact Option.some.inj (hfc.symm.trans hcy)
  · rw [e] at hstat; cases hstat
  · apply Array.ext
    · simp [hsz]
    · intro i hi1 hi2
      have hi3 : i < f.length := by rw [← hsz]; exact hi1
      have h3 := hx i hi3
      rw [Array.getElem?_eq_getElem hi1] at h3
      rw [Option.some.inj h3]
      simp [List.getD_eq_getElem?_getD, hi3]
theorem q_ncs_in : ∀ x ∈ q_ncs, Cond.not (.castable x.1 x.2) ∈ flatC (Jvm.Cond.and given_1 narrow_1) := by decide +kernel
theorem q_strs_in : ∀ x ∈ q_strs, Cond.exactly (.string x.1 x.2.1) "java/lang/String" ∈ flatC (Jvm.Cond.and given_1 narrow_1) := by decide +kernel
theorem q_strs_tb : ∀ x ∈ q_strs, Cond.stringRef x.1 x.2.1 x.2.2 ∈ lw_tbl := by decide +kernel
theorem q_nw_tb : ∀ w ∈ q_nw, w ∈ lw_tbl := by decide +kernel
set_option maxHeartbeats 4000000 in
theorem q_Ext_start {Φ : q_Fx} {s : State} {b : Nat} (hts : ∀ w ∈ lw_tbl, w.before #[Value.ref b] s = true) (hgv : (Jvm.Cond.and given_1 narrow_1).before #[Value.ref b] s = true) (hAn : ∀ a : Nat, a < s.heap.size → ¬ q_A Φ a) (hn12 : s.vm.findClass "[I" = some (Φ.cy 12)) : q_Ext Φ s s.heap := by
  have hs := flat_of_before _ hgv
  refine ⟨vx_Zqof (hts _ (by decide +kernel)) (hts _ (by decide +kernel)) (hs _ (by decide +kernel)) hAn, vx_Zqof (hts _ (by decide +kernel)) (hts _ (by decide +kernel)) (hs _ (by decide +kernel)) hAn, fun x hx => ?_, fun w hw => va_Nw.of (q_nk_on (q_nw_nk w hw)) (hts w (q_nw_tb w hw)), va_AO.of (hts _ (List.mem_of_getElem? (i := 98) (by decide +kernel))), va_AO.of (hts _ (List.mem_of_getElem? (i := 198) (by decide +kernel))), hts (Cond.arrayOver (.array .int)) (List.mem_of_getElem? (i := 956) (by decide +kernel)), ?_, ?_, fun x hx => va_Nc.of (hs _ (q_ncs_in x hx))⟩
  · obtain ⟨a, c, cell, k, ht, -⟩ := Cond.exactly_spec (hs _ (q_strs_in x hx))
    exact ⟨a, vk_R.of (hts _ (q_strs_tb x hx)) ht⟩
  · exact q_St_of (f := [0, 0, 80, 90, 100, 110]) (hs _ (by decide +kernel)) (hs _ (by decide +kernel)) (by decide) (fun k hk => by
      rcases (show k = 0 ∨ k = 1 ∨ k = 2 ∨ k = 3 ∨ k = 4 ∨ k = 5 by have : k < 6 := hk; omega) with rfl | rfl | rfl | rfl | rfl | rfl <;> exact hs _ (by decide +kernel)) (hts _ (by decide +kernel)) (hts _ (by decide +kernel)) hAn hn12
  · exact q_St_of (f := [0, 1, 2, 3, 5, 8]) (hs _ (by decide +kernel)) (hs _ (by decide +kernel)) (by decide) (fun k hk => by
      rcases (show k = 0 ∨ k = 1 ∨ k = 2 ∨ k = 3 ∨ k = 4 ∨ k = 5 by have : k < 6 := hk; omega) with rfl | rfl | rfl | rfl | rfl | rfl <;> exact hs _ (by decide +kernel)) (hts _ (by decide +kernel)) (hts _ (by decide +kernel)) hAn hn12
