section QT13
variable {Φ : q_Fx} {xb : Bool} {cc : ByteArray} {own : String} {M : q_M} {pc : Nat} {L L' : List (Option Value)} {S : List Value} {h : q_Hp} {kc ks : Nat} {Q : Except String (Option Value) → q_Hp → Prop}
abbrev q_tw13 (own : String) (ik ic : Nat) (cls Y0 : String) (names : List String) : Prop := Bundle.fit cls = true ∧ Bundle.fit Y0 = true ∧ (∀ n ∈ names, Bundle.fit n = true) ∧ Cond.classLink own ik cls ∈ q_W0 ∧ Cond.initialized cls ∈ q_W0 ∧ (∀ w ∈ ((q_own13 own ic cls Y0 names).filter vx_no).filter goodWord, w ∈ q_W0) ∧ (∀ w ∈ ((q_own13 own ic cls Y0 names).filter vx_no).filter (fun w => !goodWord w), w ∈ q_nw) ∧ (∀ w ∈ Cond.classLink own ik cls :: Cond.initialized cls :: (q_own13 own ic cls Y0 names).filter vx_no, vx_ot w = true)
theorem q_hat13 {own : String} {ik ic : Nat} {cls Y0 : String} {names : List String} (hw : q_tw13 own ik ic cls Y0 names) {p : Program} {s : State} {m : MethodId} {args : Array Value} {meth : Method} {c : Code} {cc : ByteArray} (ok : q_Ok Φ cc own M p s m args meth c) (hE : q_Ext Φ s s.heap) : ∀ w ∈ (q_own13 own ic cls Y0 names).filter vx_no, w.before args s = true :=
  vx_hat (fun w h9 => ok.2.2.2.2.1 _ (hw.2.2.2.2.2.1 w h9)) hw.2.2.2.2.2.2.1 (fun w h9 => va_Nw.use (q_nk_on (q_nw_nk w h9)) (hE.2.2.2.1 w h9))
theorem q_throw13 {ik is ic : Nat} {cls Y0 text : String} {names : List String} (hw : q_tw13 own ik ic cls Y0 names) (hstr : (own, is, text) ∈ q_strs) (htb : M.tbl = []) (hQ : Q (.error cls) h)
    (d0 : decode cc pc = .ok (.new ik, 3)) (d3 : decode cc (pc + 3) = .ok (.dup, 1)) (d4 : decode cc (pc + 4) = .ok (.ldc is, 2)) (d6 : decode cc (pc + 6) = .ok (.invokespecial ic, 3)) (d9 : decode cc (pc + 9) = .ok (.athrow, 1))
    (hF : names.length + 4 < M.rm.frames) (hLo : (S.map fun v => v.category).sum + (13 * (names.length + 2) + 43) ≤ M.rm.locals) (hkc : 1 ≤ kc) (hks : 6 ≤ ks) : q_G Φ xb cc own M (q_Zx Φ false M Q) pc L S h kc ks := by
  intro p e s m args below meth c H locs cells slots ls ok rel hl hc hs
  obtain ⟨hK, hP, hS, hX, hb1, hb2, hE, hx⟩ := rel
  obtain ⟨sa, hsa⟩ := hE.2.2.1 _ hstr
  exact q_thr13 (sa := sa) ok.1 ok.2.1 ok.2.2.2.2.2.2.2.2.2 ok.2.2.2.1 hw.1 hw.2.1 hw.2.2.1 (ok.2.2.2.2.1 _ hw.2.2.2.1) (ok.2.2.2.2.1 _ hw.2.2.2.2.1) hsa (q_hat13 hw ok hE) hw.2.2.2.2.2.2.2 hE.1 hE.2.1 hS (hl.1.trans ok.2.2.1.symm) d0 d3 d4 d6 d9
    (by rw [ok.2.2.2.2.2.2.2.2.1, htb]; intro x hx; cases hx) hF (by rw [List.map_map]; simpa [Function.comp_def, q_cv_cat] using hLo) (by omega) (by omega) ok.2.2.2.2.2.2.1 (fun t _ hz hq => ⟨h, hQ, q_Po_any hP hb1.2 hS hz hq⟩) hS.2.2 (by omega) (by omega)
theorem q_throw13W {ik is ic : Nat} {cls Y0 text : String} {names : List String} (hw : q_tw13 own ik ic cls Y0 names) (hstr : (own, is, text) ∈ q_strs) (htb : M.tbl = []) (hQ : Q (.error cls) h)
    (d0 : decode cc pc = .ok (.new ik, 3)) (d3 : decode cc (pc + 3) = .ok (.dup, 1)) (d4 : decode cc (pc + 4) = .ok (.ldc_w is, 3)) (d7 : decode cc (pc + 7) = .ok (.invokespecial ic, 3)) (d10 : decode cc (pc + 10) = .ok (.athrow, 1))
    (hF : names.length + 4 < M.rm.frames) (hLo : (S.map fun v => v.category).sum + (13 * (names.length + 2) + 43) ≤ M.rm.locals) (hkc : 1 ≤ kc) (hks : 6 ≤ ks) : q_G Φ xb cc own M (q_Zx Φ false M Q) pc L S h kc ks := by
  intro p e s m args below meth c H locs cells slots ls ok rel hl hc hs
  obtain ⟨hK, hP, hS, hX, hb1, hb2, hE, hx⟩ := rel
  obtain ⟨sa, hsa⟩ := hE.2.2.1 _ hstr
  exact q_thr13W (sa := sa) ok.1 ok.2.1 ok.2.2.2.2.2.2.2.2.2 ok.2.2.2.1 hw.1 hw.2.1 hw.2.2.1 (ok.2.2.2.2.1 _ hw.2.2.2.1) (ok.2.2.2.2.1 _ hw.2.2.2.2.1) hsa (q_hat13 hw ok hE) hw.2.2.2.2.2.2.2 hE.1 hE.2.1 hS (hl.1.trans ok.2.2.1.symm) d0 d3 d4 d7 d10
    (by rw [ok.2.2.2.2.2.2.2.2.1, htb]; intro x hx; cases hx) hF (by rw [List.map_map]; simpa [Function.comp_def, q_cv_cat] using hLo) (by omega) (by omega) ok.2.2.2.2.2.2.1 (fun t _ hz hq => ⟨h, hQ, q_Po_any hP hb1.2 hS hz hq⟩) hS.2.2 (by omega) (by omega)
end QT13
