/-! SUMS AS THE LAW MAKES THEM -/
theorem q_az_ms (m : q_W) (k : Nat) {z : Nat} (hz : 1 ≤ z) : q_az (fun _ => nI 0) (m.z k) (m.mn k) (m.pn k) z = q_ms m k z (m.pn k) := by
  rw [q_az_sum, q_ms_z m k hz]
  show nI 0 + q_sum (fun p => if m.z k p = z then m.mn k p else 0) (m.pn k) = _
  rw [show nI 0 = (0 : Int32) from rfl, Int32.zero_add]; rfl
theorem q_all_m {m : q_W} (c : ∀ i, m.σ i = i) : m.all = q_sum m.len m.c := q_sum_cong fun i _ => by rw [c]
theorem q_zs_m {m : q_W} (c : ∀ i, m.σ i = i) {z : Nat} (hz : 1 ≤ z) : m.zs z = q_sum (fun q => q_ms m q z (m.pn q)) m.c := by
  unfold q_W.zs
  rw [q_W.za_sum, show nI 0 = (0 : Int32) from rfl, Int32.zero_add]
  exact q_sum_cong fun i _ => by rw [c, q_ms_z m i hz]
theorem q_fcs {x : UInt32} (h : FP.Core.fIsNaN x = false) (op : CmpOp) : Op.cmpValue (FP.fcmp x x) op = nI 0 := by
  rw [show FP.fcmp x x = some .eq from FP.Core.fcmp_self (fun e => by rw [(FP.Core.fIsNaN_iff x).mpr e] at h; cases h)]; rfl
theorem q_fcc : FP.Core.fIsNaN 3378231840 = false := by decide +kernel
theorem q_fcd : FP.Core.fIsNaN 3378231824 = false := by decide +kernel
theorem q_idpl {m : q_W} {N : Nat} (k0 : q_si2 m N) {k : Nat} (hk : k < m.c) : q_pl (fun q => decide (m.id q = m.id k)) m.c = nI k :=
  q_pl_i hk (by simp) (fun j hj e => k0.2.2.2.2.1 j hj k hk (by simpa using e))
theorem q_idmat {m : q_W} {N : Nat} (k0 : q_si2 m N) {k : Nat} (hk : k < m.c) : m.mat (m.id k) = k := by
  have hc := k0.2.1
  unfold q_W.mat; rw [q_idpl k0 hk]; exact nI_clamp (by omega)
theorem q_idno {m : q_W} {N : Nat} (k0 : q_si2 m N) {k : Nat} (hk : k < m.c) : ¬ m.mno (m.id k) := by
  have hc := k0.2.1
  show ¬ (q_pl (fun q => decide (m.id q = m.id k)) m.c < 0)
  rw [q_idpl k0 hk]; exact nI_pos (by omega)
