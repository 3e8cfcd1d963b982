/-! THE CLASS'S FACE: SUMS, TREND, RECORDS, PLAN, LINE -/
theorem q_n32 {r : UInt32} (h : FP.Core.fIsNaN r = false) : vf_n32 r := by
  unfold vf_n32
  rw [UInt32.le_iff_toNat_le, UInt32.toNat_and]
  have h1 : (0x7fffffff : UInt32).toNat = 2 ^ 31 - 1 := by decide
  have h2 : (0x7f800000 : UInt32).toNat = 2139095040 := by decide
  rw [h1, h2, Nat.and_two_pow_sub_one_eq_mod]
  refine Nat.not_lt.mp fun c => ?_
  rw [(FP.Core.isNaN_bits32 r).mpr c] at h
  cases h
theorem q_n64 {r : UInt64} (h : FP.Core.dIsNaN r = false) : vf_n64 r := by
  unfold vf_n64
  rw [UInt64.le_iff_toNat_le, UInt64.toNat_and]
  have h1 : (0x7fffffffffffffff : UInt64).toNat = 2 ^ 63 - 1 := by decide
  have h2 : (0x7ff0000000000000 : UInt64).toNat = 9218868437227405312 := by decide
  rw [h1, h2, Nat.and_two_pow_sub_one_eq_mod]
  refine Nat.not_lt.mp fun c => ?_
  rw [(FP.Core.isNaN_bits r).mpr c] at h
  cases h
theorem q_fd0 {x y : Int32} (h : ¬ y = 0) : FP.Core.fIsNaN (FP.fdiv (FP.i2f x) (FP.i2f y)) = false := by
  have hx : FP.Core.fIsNaN (FP.i2f x) = false := by
    have h1 := (FP.Core.fin_bits32 _).mp (FP.Core.i2f_fin x)
    cases e : FP.Core.fIsNaN (FP.i2f x) with
    | false => rfl
    | true =>
      have := (FP.Core.isNaN_bits32 _).mp e
      have h2 : (FP.i2f x).toNat % 2 ^ 31 < 2139095040 := h1
      omega
  exact FP.Core.fdiv_out hx (FP.Core.i2f_fin y) fun z => FP.Core.i2f_ne_zero h ((FP.Core.zero_bits232 _).mp z)
theorem q_fdn {x y : Int32} (h : ¬ y = 0) : vf_n32 (FP.fdiv (FP.i2f x) (FP.i2f y)) := q_n32 (q_fd0 h)
theorem q_dd0 {x y : Int32} (h : ¬ y = 0) : FP.Core.dIsNaN (FP.ddiv (FP.i2d x) (FP.i2d y)) = false := by
  have hx : FP.Core.dIsNaN (FP.i2d x) = false := by
    have h1 := (FP.Core.fin_bits _).mp (FP.Core.i2d_fin x)
    cases e : FP.Core.dIsNaN (FP.i2d x) with
    | false => rfl
    | true =>
      have := (FP.Core.isNaN_bits _).mp e
      have h2 : (FP.i2d x).toNat % 2 ^ 63 < 9218868437227405312 := h1
      omega
  exact FP.Core.ddiv_out hx (FP.Core.i2d_fin y) fun z => FP.Core.i2d_ne_zero h ((FP.Core.zero_bits2 _).mp z)
theorem q_ddn {x y : Int32} (h : ¬ y = 0) : vf_n64 (FP.ddiv (FP.i2d x) (FP.i2d y)) := q_n64 (q_dd0 h)
/-- the zones' minutes of the first n sessions in order -/
def q_W.za (W : q_W) (g : Nat → Int32) : Nat → Nat → Int32
  | 0 => g
  | n + 1 => q_az (W.za g n) (W.z (W.σ n)) (W.mn (W.σ n)) (W.pn (W.σ n))
theorem q_W.za_in (W : q_W) {g g' : Nat → Int32} (h : ∀ k, k < 6 → g k = g' k) (n k : Nat) (hk : k < 6) : W.za g n k = W.za g' n k := by
  induction n generalizing k with
  | zero => exact h k hk
  | succ n ih => exact q_az_in (fun k hk => ih k hk) _ (fun p => W.z_lt _ p) _ _ k hk
def q_W.zs (W : q_W) (k : Nat) : Int32 := W.za (fun _ => nI 0) W.c k
def q_W.all (W : q_W) : Int32 := q_sum (fun i => W.len (W.σ i)) W.c
theorem q_decB {b : Int32} {L a : Nat → Int32} {k : Nat} (ha : ∀ x, x < k → a x = q_dec b L (x + 1)) {j : Nat} (hj : j ≤ k) : (if j = 0 then nI 0 else a (j - 1)) = q_dec b L j := by
  cases j with
  | zero => rfl
  | succ j => rw [if_neg (by omega), Nat.add_sub_cancel, ha j (by omega)]
/-- the form of a day -/
def q_W.fm (W : q_W) (d : Nat) : Int32 := q_dec (nI 42) W.D d - q_dec (nI 7) W.D d
/-- decay without load -/
def q_dz (b : Int32) (v : Int32) : Nat → Int32
  | 0 => v
  | n + 1 => q_dz b v n + (nI 1000 * nI 0 - q_dz b v n) / b
/-- the form n days from today -/
def q_W.G (W : q_W) : Nat → Int32
  | 0 => W.fm W.t
  | n + 1 => q_dz (nI 42) (q_dec (nI 42) W.D (W.t + 1)) n - q_dz (nI 7) (q_dec (nI 7) W.D (W.t + 1)) n
/-- the greatest of n, at least 0 -/
def q_mz (f : Nat → Int32) : Nat → Int32
  | 0 => nI 0
  | n + 1 => if q_mz f n < f n then f n else q_mz f n
theorem q_sgn_lt (W : q_W) (d : Nat) : W.sgn d < 65536 := by
  unfold q_W.sgn
  have := q_br_le (W.zr d) 5
  split
  · omega
  split <;> omega
theorem q_char {n : Nat} (h : n < 65536) : vp_nar .char (nI n) = nI n := by unfold vp_nar; rw [(pk_charN h).1]
/-- the line behind n signs -/
def q_wl (W : q_W) (d : Nat) (g : Nat → Int32) (n : Nat) : Nat → Int32 := fun k => if k < 2 * n - 1 then (if k % 2 = 1 then nI 32 else nI (W.sgn (d + k / 2))) else g k
theorem q_wl_0 (W : q_W) (d : Nat) (g : Nat → Int32) : q_wl W d g 0 = g := by funext k; unfold q_wl; rw [if_neg (by omega)]
theorem q_wl_a (W : q_W) (d : Nat) (g : Nat → Int32) {n : Nat} (hn : n = 0) : va_up (q_wl W d g n) (2 * n) (nI (W.sgn (d + n))) = q_wl W d g (n + 1) := by
  subst hn
  funext k; unfold va_up q_wl
  by_cases e : k = 2 * 0
  · subst e; rw [if_pos rfl, if_pos (by omega), if_neg (by omega)]
  · rw [if_neg e]
    show (if k < 2 * 0 - 1 then _ else _) = _
    rw [if_neg (by omega), if_neg (by omega)]
theorem q_wl_b (W : q_W) (d : Nat) (g : Nat → Int32) {n : Nat} (hn : 0 < n) : va_up (va_up (q_wl W d g n) (2 * n - 1) (nI 32)) (2 * n) (nI (W.sgn (d + n))) = q_wl W d g (n + 1) := by
  funext k; unfold va_up q_wl
  by_cases e : k = 2 * n
  · subst e; rw [if_pos rfl, if_pos (by omega), if_neg (by omega), show 2 * n / 2 = n by omega]
  · rw [if_neg e]
    by_cases e2 : k = 2 * n - 1
    · subst e2; rw [if_pos rfl, if_pos (by omega), if_pos (by omega)]
    · rw [if_neg e2]
      show (if k < 2 * n - 1 then _ else _) = _
      by_cases e3 : k < 2 * n - 1
      · rw [if_pos (show k < 2 * (n + 1) - 1 by omega), if_pos e3]
      · rw [if_neg e3, if_neg (by omega)]
def q_O.wrt (O : q_O) (ln : Nat → Int32) : q_O := ((O.nx, O.cn), O.OB, (O.hs, O.SW), (13, ln))
theorem q_wrote {h : q_Hp} {W : q_W} {O : q_O} (C : q_cl' h W O) (L g : Nat → Int32) : q_mu h (((h.rowI 1052 L).rowI 1059 g).setI 1 5 (nI 13)) W (O.wrt L) 200 := by
  have hn : ∀ p, p ≠ 1 → p ≠ 1052 → p ≠ 1059 → (((h.rowI 1052 L).rowI 1059 g).setI 1 5 (nI 13)).I p = h.I p := fun p a b c => by rw [q_sIn _ _ _ a, q_rIn _ _ c, q_rIn _ _ b]
  obtain ⟨V, o, ⟨a1, a2, a3, a4⟩, b, ⟨s1, s2, s3, s4⟩, d1, d2, d3⟩ := C
  refine ⟨⟨V.cong (fun p h1 h2 => hn p (by omega) (by omega) (by omega)) rfl, o, ⟨?_, a2, ?_, a4⟩, fun j hj => ⟨(b j hj).1.cong (fun p h1 h2 => hn p (by omega) (by omega) (by omega)) rfl, (b j hj).2⟩, ⟨?_, s2, s3.cong (fun p h1 h2 => hn p (by omega) (by omega) (by omega)) rfl, s4⟩, ?_, ?_, ?_⟩, ⟨fun p hp => hn p (by omega) (by omega) (by omega), fun _ _ => rfl, rfl, rfl, rfl⟩, q_tf.of (hn _ (by omega) (by omega) (by omega)) (hn _ (by omega) (by omega) (by omega)) (hn _ (by omega) (by omega) (by omega))⟩
  · rw [hn 133 (by omega) (by omega) (by omega)]; exact a1
  · rw [hn 133 (by omega) (by omega) (by omega)]; exact a3
  · rw [q_sI, va_un _ _ (by decide), q_rIn _ _ (by omega), q_rIn _ _ (by omega)]; exact s1
  · rw [q_sI, va_us]; rfl
  · show 13 ≤ 13; omega
  · rw [q_sIn _ _ _ (by omega), q_rIn _ _ (by omega), q_rI]; rfl
theorem g_X9_zoneShare {Φ : q_Fx} {h : q_Hp} (K : q_Lk Φ h.R h.n) {W : q_W} {O : q_O} (C : q_clX h W O) {z : Int32} : q_Ct Φ false yX9_zoneShare cX9_zoneShare mX9_zoneShare [.ref 1, .int z] h (q_u2 h W O (¬ (nI 1 ≤ z ∧ z ≤ nI 5)) "java/lang/IllegalArgumentException" (W.all = 0) "java/lang/ArithmeticException" (fun v h' => v = some (.float (FP.fdiv (FP.i2f (W.zs z.toNatClampNeg)) (FP.i2f W.all))) ∧ q_rd h h' W O)) := by
  refine q_enter K.st rfl rfl (by decide) rfl (Nat.le_of_ble_eq_true rfl) (L := [_, _, none, none, none]) rfl ?_
  have C0 := C
  obtain ⟨k, hT⟩ := C.2
  have hk2 : k ≤ W.t + 1 := hT.2.1
  have V0 := C.1.1
  have V := C.1.1
  have ht9 := V.t9
  have hc40 := V.c40
  refine q_iload_n dX9_zoneShare_0 rfl ?_
  refine q_sT (kc := 1) (ks := 6) (g_X9_requireZone (h := h) K (z := z)) wX9_requireZone kX9_146 sX9_requireZone (by decide) rfl rfl (Nat.le_of_ble_eq_true rfl) dX9_zoneShare_1 rfl rfl rfl (fun c1 => by exact Or.inl ⟨c1, rfl, q_rd.rf C⟩) (fun c2 => ?_)
  have n1 := c2
  obtain ⟨j, hj1, hj2, rfl⟩ := q_rng n1 (by omega) (by omega)
  try rw [nI_clamp (show j < 2 ^ 31 by omega)]
  refine q_aload_n dX9_zoneShare_4 rfl ?_
  refine fRX9_59 (o := some 1059) dX9_zoneShare_5 rfl (by decide) (K.le (by decide)) (K.lk rfl) ?_
  refine q_rfS ?_
  refine q_sD (kc := 1) (ks := 6) (g_clear59 (h := h) K) wX9_clear kX9_212 sX9_clear (by decide) rfl rfl (Nat.le_of_ble_eq_true rfl) dX9_zoneShare_8 rfl rfl ?_
  have hg59 : ∀ k, k < 6 → q_cpy (fun _ => nI 0) (h.I 1059) 6 k = nI 0 := fun k hk => q_cpy_lt _ _ hk
  generalize q_cpy (fun _ => nI 0) (h.I 1059) 6 = g59 at hg59 ⊢
  refine q_iconst (v := nI 0) dX9_zoneShare_11 (by decide) ?_
  refine q_istore_n (L' := [_, _, _, _, _]) dX9_zoneShare_12 rfl (by decide) rfl ?_
  refine q_iconst (v := nI 0) dX9_zoneShare_13 (by decide) ?_
  refine q_istore_n (L' := [_, _, _, _, _]) dX9_zoneShare_14 rfl (by decide) rfl ?_
  refine q_loop (ι := Nat) (μ := fun i => W.c - i) (P := fun i => i ≤ W.c) (Lf := fun i => [some (.ref 1), some (.int (nI (j))), some (.int (q_sum (fun i => W.len (W.σ i)) i)), some (.int (nI (i))), none]) (hf := fun i => (h.rowI 1059 (W.za g59 i))) (fun i hi15 ih15 => ?_) 0 (by omega) (q_sub_s rfl (q_sub_i rfl (q_sub_i rfl (q_sub_i rfl (q_sub_n q_sub_0))))) rfl
  skip
  refine q_iload_n dX9_zoneShare_15 rfl ?_
  refine q_aload_n dX9_zoneShare_16 rfl ?_
  refine fRX9_12 (o := some 2) dX9_zoneShare_17 rfl (by decide) (K.le (by decide)) (K.lk rfl) ?_
  refine q_rfS ?_
  refine fRX9_156 (o := some 9) dX9_zoneShare_20 rfl (by decide) (K.le (by decide)) (K.lk rfl) ?_
  refine q_rfS ?_
  refine fIX9_160 dX9_zoneShare_23 rfl (by decide) (K.le (by decide)) ?_
  refine q_tv (show _ = (nI (W.c)) from ((congrFun (q_rIn _ _ (by omega)) _).trans V.c)) ?_
  refine q_icmp_geN (by omega) (by omega) (tgt := 70) dX9_zoneShare_26 rfl (fun c3 => ?_) (fun c4 => ?_)
  · have ei : i = W.c := by omega
    refine q_iload_n dX9_zoneShare_70 rfl ?_
    refine q_if_ne (tgt := 84) dX9_zoneShare_71 rfl (fun c5 => ?_) (fun c6 => ?_)
    · refine q_aload_n dX9_zoneShare_84 rfl ?_
      refine fRX9_59 (o := some 1059) dX9_zoneShare_85 rfl (by decide) (K.le (by decide)) (K.lk rfl) ?_
      refine q_rfS ?_
      refine q_iload_n dX9_zoneShare_88 rfl ?_
      refine q_ialdN (len := 6) rfl dX9_zoneShare_89 (by decide) (K.le (by decide)) rfl (by omega) (by decide) ?_
      refine q_tv (show _ = (W.za g59 i (j)) from ((congrFun (q_rI _ _ _) _).trans rfl)) ?_
      refine q_i2f dX9_zoneShare_90 ?_
      refine q_iload_n dX9_zoneShare_91 rfl ?_
      refine q_i2f dX9_zoneShare_92 ?_
      refine q_fdiv dX9_zoneShare_93 (q_fdn (by assumption)) ?_
      refine q_fret dX9_zoneShare_94 rfl (Or.inl rfl) ?_
      exact Or.inr (Or.inr ⟨n1, (by unfold q_W.all; rw [← ei]; assumption), _, rfl, by rw [ei, W.za_in hg59 _ _ (by omega)]; rfl, (q_rd.rf C).row (by omega) (by omega)⟩)
    · refine q_throw (text := "there are no minutes") tw_226_230 (by decide) rfl ?_ dX9_zoneShare_74 dX9_zoneShare_77 dX9_zoneShare_78 dX9_zoneShare_80 dX9_zoneShare_83 (by decide) (by decide) (by decide) (by decide)
      exact Or.inr (Or.inl ⟨n1, by unfold q_W.all; rw [← ei]; assumption, rfl, (q_rd.rf C).row (by omega) (by omega)⟩)
  · refine q_aload_n dX9_zoneShare_29 rfl ?_
    refine fRX9_12 (o := some 2) dX9_zoneShare_30 rfl (by decide) (K.le (by decide)) (K.lk rfl) ?_
    refine q_rfS ?_
    refine fRX9_156 (o := some 9) dX9_zoneShare_33 rfl (by decide) (K.le (by decide)) (K.lk rfl) ?_
    refine q_rfS ?_
    refine fRX9_205 (o := some 10) dX9_zoneShare_36 rfl (by decide) (K.le (by decide)) (K.lk rfl) ?_
    refine q_rfS ?_
    refine q_iload_n dX9_zoneShare_39 rfl ?_
    refine q_aaldN (len := 40) (o := some (11 + 3 * W.σ (i))) (by decide) (by decide) dX9_zoneShare_40 (by decide) (K.le (by decide)) rfl (by omega) (by decide) (V.sg (by omega)) ?_
    refine q_rfS ?_
    refine q_astore (L' := [_, _, _, _, _]) dX9_zoneShare_41 rfl (by decide) rfl ?_
    refine q_aload_n dX9_zoneShare_43 rfl ?_
    refine fRX9_12 (o := some 2) dX9_zoneShare_44 rfl (by decide) (K.le (by decide)) (K.lk rfl) ?_
    refine q_rfS ?_
    refine q_aload dX9_zoneShare_47 rfl ?_
    refine q_aload_n dX9_zoneShare_49 rfl ?_
    refine fRX9_59 (o := some 1059) dX9_zoneShare_50 rfl (by decide) (K.le (by decide)) (K.lk rfl) ?_
    refine q_rfS ?_
    refine q_vD (kc := 1) (ks := 6) (g_X5_addZoneMinutes (h := (h.rowI 1059 (W.za g59 i))) K (V.row (a := 1059) (by decide)) (V.s40 (i := (i)) (by omega))) wX5_addZoneMinutes kX9_215 iX5_addZoneMinutes eX5_addZoneMinutes rfl rfl (by decide) (K.le (by decide)) (by decide) rfl rfl (Nat.le_of_ble_eq_true rfl) dX9_zoneShare_53 rfl rfl ?_
    rw [q_rr, q_rI]
    refine q_iload_n dX9_zoneShare_56 rfl ?_
    refine q_aload dX9_zoneShare_57 rfl ?_
    refine q_vD (kc := 1) (ks := 6) (g_X3_length (h := (h.rowI 1059 (q_az (W.za g59 i) (W.z (W.σ (i))) (W.mn (W.σ (i))) (W.pn (W.σ (i)))))) K (V.row (a := 1059) (by decide)) (V.s40 (i := (i)) (by omega))) wX3_length kX9_177 iX3_length eX3_length (q_ts (V.s40 (i := (i)) (by omega))) rfl (by omega) (K.le (q_bs (V.s40 (i := (i)) (by omega)))) (by decide) rfl rfl (Nat.le_of_ble_eq_true rfl) dX9_zoneShare_59 rfl rfl ?_
    refine q_iadd dX9_zoneShare_62 ?_
    refine q_istore_n (L' := [_, _, _, _, _]) dX9_zoneShare_63 rfl (by decide) rfl ?_
    refine q_iincN (n := 1) (L' := [_, _, _, _, _]) (by decide) dX9_zoneShare_64 rfl rfl (by decide) rfl ?_
    refine q_goto (tgt := 15) dX9_zoneShare_67 rfl ?_
    exact q_to (ih15 (i + 1) (by omega) (by omega)) (q_sub_s rfl (q_sub_i rfl (q_sub_i rfl (q_sub_i rfl (q_sub_n q_sub_0))))) rfl
theorem g_X9_meanLoad {Φ : q_Fx} {h : q_Hp} (K : q_Lk Φ h.R h.n) {W : q_W} {O : q_O} (C : q_clX h W O) : q_Ct Φ false yX9_meanLoad cX9_meanLoad mX9_meanLoad [.ref 1] h (q_ex (fun v h' => v = some (.double (FP.ddiv (FP.i2d (q_sum (fun k => W.D (0 + k)) (W.t + 1))) (FP.i2d (nI (W.t + 1))))) ∧ q_rd h h' W O)) := by
  refine q_enter K.st rfl rfl (by decide) rfl (Nat.le_of_ble_eq_true rfl) (L := [_]) rfl ?_
  have C0 := C
  obtain ⟨k, hT⟩ := C.2
  have hk2 : k ≤ W.t + 1 := hT.2.1
  have V0 := C.1.1
  have V := C.1.1
  have ht9 := V.t9
  refine q_aload_n dX9_meanLoad_0 rfl ?_
  refine fRX9_12 (o := some 2) dX9_meanLoad_1 rfl (by decide) (K.le (by decide)) (K.lk rfl) ?_
  refine q_rfS ?_
  refine q_aload_n dX9_meanLoad_4 rfl ?_
  refine fRX9_52 (o := some 1057) dX9_meanLoad_5 rfl (by decide) (K.le (by decide)) (K.lk rfl) ?_
  refine q_rfS ?_
  refine q_vD (kc := 0) (ks := 0) (g_X5_fillDayLoads (h := h) K V) wX5_fillDayLoads kX9_223 iX5_fillDayLoads eX5_fillDayLoads rfl rfl (by decide) (K.le (by decide)) (by decide) rfl rfl (Nat.le_of_ble_eq_true rfl) dX9_meanLoad_8 rfl rfl ?_
  have hg57 : ∀ k, k < 200 → W.dl (h.I 1057) W.c k = W.D k := fun k hk => W.dl_in _ _ _ k hk
  generalize W.dl (h.I 1057) W.c = g57 at hg57 ⊢
  refine q_aload_n dX9_meanLoad_11 rfl ?_
  refine q_iconst (v := nI 0) dX9_meanLoad_12 (by decide) ?_
  refine q_aload_n dX9_meanLoad_13 rfl ?_
  refine fRX9_12 (o := some 2) dX9_meanLoad_14 rfl (by decide) (K.le (by decide)) (K.lk rfl) ?_
  refine q_rfS ?_
  refine fIX9_69 dX9_meanLoad_17 rfl (by decide) (K.le (by decide)) ?_
  refine q_tv (show _ = (nI (W.t)) from ((congrFun (q_rIn _ _ (by omega)) _).trans V.t)) ?_
  refine q_iconst (v := nI 1) dX9_meanLoad_20 (by decide) ?_
  refine q_iaddN dX9_meanLoad_21 ?_
  refine q_vD (kc := 0) (ks := 0) (g_X9_sumOfLoads (h := (h.rowI 1057 g57)) K (V.row (a := 1057) (by decide)) (fun k hk => (congrFun (q_rI _ _ _) _).trans (hg57 k hk)) (a := 0) (n := (W.t) + (1)) (by omega)) wX9_sumOfLoads kX9_231 iX9_sumOfLoads eX9_sumOfLoads rfl rfl (by decide) (K.le (by decide)) (by decide) rfl rfl (Nat.le_of_ble_eq_true rfl) dX9_meanLoad_22 rfl rfl ?_
  refine q_i2d dX9_meanLoad_25 ?_
  refine q_aload_n dX9_meanLoad_26 rfl ?_
  refine fRX9_12 (o := some 2) dX9_meanLoad_27 rfl (by decide) (K.le (by decide)) (K.lk rfl) ?_
  refine q_rfS ?_
  refine fIX9_69 dX9_meanLoad_30 rfl (by decide) (K.le (by decide)) ?_
  refine q_tv (show _ = (nI (W.t)) from ((congrFun (q_rIn _ _ (by omega)) _).trans V.t)) ?_
  refine q_iconst (v := nI 1) dX9_meanLoad_33 (by decide) ?_
  refine q_iaddN dX9_meanLoad_34 ?_
  refine q_i2d dX9_meanLoad_35 ?_
  refine q_ddiv dX9_meanLoad_36 (q_ddn (nI_ne0 (by omega) (by omega))) ?_
  refine q_dret dX9_meanLoad_37 rfl (Or.inl rfl) ?_
  exact ⟨_, rfl, rfl, (q_rd.rf C).row (by omega) (by omega)⟩
theorem g_X9_fitnessOn {Φ : q_Fx} {h : q_Hp} (K : q_Lk Φ h.R h.n) {W : q_W} {O : q_O} (C : q_clX h W O) {d : Int32} : q_Ct Φ false yX9_fitnessOn cX9_fitnessOn mX9_fitnessOn [.ref 1, .int d] h (q_u1 h W O (¬ (nI 0 ≤ d ∧ d ≤ nI W.t)) "java/lang/IllegalArgumentException" (fun v h' => v = some (.int (q_dec (nI 42) W.D (d.toNatClampNeg + 1))) ∧ q_rd h h' W O)) := by
  refine q_enter K.st rfl rfl (by decide) rfl (Nat.le_of_ble_eq_true rfl) (L := [_, _]) rfl ?_
  have C0 := C
  obtain ⟨k, hT⟩ := C.2
  have hk2 : k ≤ W.t + 1 := hT.2.1
  have V0 := C.1.1
  have V := C.1.1
  have ht9 := V.t9
  refine q_aload_n dX9_fitnessOn_0 rfl ?_
  refine q_iload_n dX9_fitnessOn_1 rfl ?_
  refine q_vT (kc := 0) (ks := 0) (g_X9_requireDayUpToToday (h := h) K V (d := d)) wX9_requireDayUpToToday kX9_83 iX9_requireDayUpToToday eX9_requireDayUpToToday rfl rfl (by decide) (K.le (by decide)) (by decide) rfl rfl (Nat.le_of_ble_eq_true rfl) dX9_fitnessOn_2 rfl rfl rfl (fun c1 => by exact Or.inl ⟨c1, rfl, q_rd.rf C⟩) (fun c2 => ?_)
  have n2 := c2
  obtain ⟨j, hj1, hj2, rfl⟩ := q_rng n2 (by omega) (by omega)
  try rw [nI_clamp (show j < 2 ^ 31 by omega)]
  refine q_aload_n dX9_fitnessOn_5 rfl ?_
  refine q_iload_n dX9_fitnessOn_6 rfl ?_
  refine q_vR (kc := 0) (ks := 0) (g_X9_learnTrend (h := h) K V hT (d := j) (by omega)) wX9_learnTrend kX9_234 iX9_learnTrend eX9_learnTrend rfl rfl (by decide) (K.le (by decide)) (by decide) rfl rfl (Nat.le_of_ble_eq_true rfl) dX9_fitnessOn_7 rfl rfl ?_
  rintro v h' ⟨rfl, gT, aT, bT, cT, rfl, k', hkk, hdk, hk3, hc2, ha, hb⟩
  refine q_aload_n dX9_fitnessOn_10 rfl ?_
  refine fRX9_41 (o := some 1053) dX9_fitnessOn_11 rfl (by decide) (K.le (by decide)) (K.lk rfl) ?_
  refine q_rfS ?_
  refine fRX9_237 (o := some 1054) dX9_fitnessOn_14 rfl (by decide) (K.le (by decide)) (K.lk rfl) ?_
  refine q_rfS ?_
  refine q_iload_n dX9_fitnessOn_17 rfl ?_
  refine q_ialdN (len := 200) rfl dX9_fitnessOn_18 (by decide) (K.le (by decide)) rfl (by omega) (by decide) ?_
  refine q_tv (show _ = (q_dec (nI 42) W.D ((j) + 1)) from ((congrFun (q_rIn _ _ (by omega)) _).trans ((congrFun (q_rIn _ _ (by omega)) _).trans ((congrFun (q_rI _ _ _) _).trans (ha _ (by omega)))))) ?_
  refine q_iret dX9_fitnessOn_19 rfl (Or.inl rfl) ?_
  exact Or.inr ⟨n2, _, rfl, rfl, ((q_rd.rf C).row (by omega) (by omega)).tr hk3 hc2 ha hb⟩
theorem g_X9_fitnessFromStart {Φ : q_Fx} {h : q_Hp} (K : q_Lk Φ h.R h.n) {W : q_W} {O : q_O} (C : q_clX h W O) {d : Int32} : q_Ct Φ false yX9_fitnessFromStart cX9_fitnessFromStart mX9_fitnessFromStart [.ref 1, .int d] h (q_u1 h W O (¬ (nI 0 ≤ d ∧ d ≤ nI W.t)) "java/lang/IllegalArgumentException" (fun v h' => v = some (.int (q_dec (nI 42) W.D (d.toNatClampNeg + 1))) ∧ q_rd h h' W O)) := by
  refine q_enter K.st rfl rfl (by decide) rfl (Nat.le_of_ble_eq_true rfl) (L := [_, _, none, none]) rfl ?_
  have C0 := C
  obtain ⟨k, hT⟩ := C.2
  have hk2 : k ≤ W.t + 1 := hT.2.1
  have V0 := C.1.1
  have V := C.1.1
  have ht9 := V.t9
  refine q_aload_n dX9_fitnessFromStart_0 rfl ?_
  refine q_iload_n dX9_fitnessFromStart_1 rfl ?_
  refine q_vT (kc := 0) (ks := 0) (g_X9_requireDayUpToToday (h := h) K V (d := d)) wX9_requireDayUpToToday kX9_83 iX9_requireDayUpToToday eX9_requireDayUpToToday rfl rfl (by decide) (K.le (by decide)) (by decide) rfl rfl (Nat.le_of_ble_eq_true rfl) dX9_fitnessFromStart_2 rfl rfl rfl (fun c1 => by exact Or.inl ⟨c1, rfl, q_rd.rf C⟩) (fun c2 => ?_)
  have n2 := c2
  obtain ⟨j, hj1, hj2, rfl⟩ := q_rng n2 (by omega) (by omega)
  try rw [nI_clamp (show j < 2 ^ 31 by omega)]
  refine q_aload_n dX9_fitnessFromStart_5 rfl ?_
  refine fRX9_12 (o := some 2) dX9_fitnessFromStart_6 rfl (by decide) (K.le (by decide)) (K.lk rfl) ?_
  refine q_rfS ?_
  refine q_aload_n dX9_fitnessFromStart_9 rfl ?_
  refine fRX9_52 (o := some 1057) dX9_fitnessFromStart_10 rfl (by decide) (K.le (by decide)) (K.lk rfl) ?_
  refine q_rfS ?_
  refine q_vD (kc := 0) (ks := 0) (g_X5_fillDayLoads (h := h) K V) wX5_fillDayLoads kX9_223 iX5_fillDayLoads eX5_fillDayLoads rfl rfl (by decide) (K.le (by decide)) (by decide) rfl rfl (Nat.le_of_ble_eq_true rfl) dX9_fitnessFromStart_13 rfl rfl ?_
  have hg57 : ∀ k, k < 200 → W.dl (h.I 1057) W.c k = W.D k := fun k hk => W.dl_in _ _ _ k hk
  generalize W.dl (h.I 1057) W.c = g57 at hg57 ⊢
  refine q_iconst (v := nI 0) dX9_fitnessFromStart_16 (by decide) ?_
  refine q_istore_n (L' := [_, _, _, _]) dX9_fitnessFromStart_17 rfl (by decide) rfl ?_
  refine q_iconst (v := nI 0) dX9_fitnessFromStart_18 (by decide) ?_
  refine q_istore_n (L' := [_, _, _, _]) dX9_fitnessFromStart_19 rfl (by decide) rfl ?_
  refine q_loop (ι := Nat) (μ := fun i => j + 1 - i) (P := fun i => i ≤ j + 1) (Lf := fun i => [some (.ref 1), some (.int (nI (j))), some (.int (q_dec (nI 42) W.D i)), some (.int (nI (i)))]) (hf := fun i => (h.rowI 1057 g57)) (fun i hi20 ih20 => ?_) 0 (by omega) (q_sub_s rfl (q_sub_i rfl (q_sub_i rfl (q_sub_i rfl q_sub_0)))) rfl
  skip
  refine q_iload_n dX9_fitnessFromStart_20 rfl ?_
  refine q_iload_n dX9_fitnessFromStart_21 rfl ?_
  refine q_icmp_gtN (by omega) (by omega) (tgt := 42) dX9_fitnessFromStart_22 rfl (fun c3 => ?_) (fun c4 => ?_)
  · refine q_iload_n dX9_fitnessFromStart_42 rfl ?_
    refine q_iret dX9_fitnessFromStart_43 rfl (Or.inl rfl) ?_
    exact Or.inr ⟨n2, _, rfl, by rw [show i = j + 1 by omega], (q_rd.rf C).row (by omega) (by omega)⟩
  · refine q_iload_n dX9_fitnessFromStart_25 rfl ?_
    refine q_aload_n dX9_fitnessFromStart_26 rfl ?_
    refine fRX9_52 (o := some 1057) dX9_fitnessFromStart_27 rfl (by decide) (K.le (by decide)) (K.lk rfl) ?_
    refine q_rfS ?_
    refine q_iload_n dX9_fitnessFromStart_30 rfl ?_
    refine q_ialdN (len := 200) rfl dX9_fitnessFromStart_31 (by decide) (K.le (by decide)) rfl (by omega) (by decide) ?_
    refine q_tv (show _ = (W.D (i)) from ((congrFun (q_rI _ _ _) _).trans (hg57 _ (by omega)))) ?_
    refine q_sD (kc := 0) (ks := 0) (g_X9_nextFitness (h := (h.rowI 1057 g57)) K (f := (q_dec (nI 42) W.D i)) (l := (W.D (i)))) wX9_nextFitness kX9_240 sX9_nextFitness (by decide) rfl rfl (Nat.le_of_ble_eq_true rfl) dX9_fitnessFromStart_32 rfl rfl ?_
    refine q_istore_n (L' := [_, _, _, _]) dX9_fitnessFromStart_35 rfl (by decide) rfl ?_
    refine q_iincN (n := 1) (L' := [_, _, _, _]) (by decide) dX9_fitnessFromStart_36 rfl rfl (by decide) rfl ?_
    refine q_goto (tgt := 20) dX9_fitnessFromStart_39 rfl ?_
    exact q_to (ih20 (i + 1) (by omega) (by omega)) (q_sub_s rfl (q_sub_i rfl (q_sub_i rfl (q_sub_i rfl q_sub_0)))) rfl
theorem g_X9_fatigueOn {Φ : q_Fx} {h : q_Hp} (K : q_Lk Φ h.R h.n) {W : q_W} {O : q_O} (C : q_clX h W O) {d : Int32} : q_Ct Φ false yX9_fatigueOn cX9_fatigueOn mX9_fatigueOn [.ref 1, .int d] h (q_u1 h W O (¬ (nI 0 ≤ d ∧ d ≤ nI W.t)) "java/lang/IllegalArgumentException" (fun v h' => v = some (.int (q_dec (nI 7) W.D (d.toNatClampNeg + 1))) ∧ q_rd h h' W O)) := by
  refine q_enter K.st rfl rfl (by decide) rfl (Nat.le_of_ble_eq_true rfl) (L := [_, _]) rfl ?_
  have C0 := C
  obtain ⟨k, hT⟩ := C.2
  have hk2 : k ≤ W.t + 1 := hT.2.1
  have V0 := C.1.1
  have V := C.1.1
  have ht9 := V.t9
  refine q_aload_n dX9_fatigueOn_0 rfl ?_
  refine q_iload_n dX9_fatigueOn_1 rfl ?_
  refine q_vT (kc := 0) (ks := 0) (g_X9_requireDayUpToToday (h := h) K V (d := d)) wX9_requireDayUpToToday kX9_83 iX9_requireDayUpToToday eX9_requireDayUpToToday rfl rfl (by decide) (K.le (by decide)) (by decide) rfl rfl (Nat.le_of_ble_eq_true rfl) dX9_fatigueOn_2 rfl rfl rfl (fun c1 => by exact Or.inl ⟨c1, rfl, q_rd.rf C⟩) (fun c2 => ?_)
  have n2 := c2
  obtain ⟨j, hj1, hj2, rfl⟩ := q_rng n2 (by omega) (by omega)
  try rw [nI_clamp (show j < 2 ^ 31 by omega)]
  refine q_aload_n dX9_fatigueOn_5 rfl ?_
  refine q_iload_n dX9_fatigueOn_6 rfl ?_
  refine q_vR (kc := 0) (ks := 0) (g_X9_learnTrend (h := h) K V hT (d := j) (by omega)) wX9_learnTrend kX9_234 iX9_learnTrend eX9_learnTrend rfl rfl (by decide) (K.le (by decide)) (by decide) rfl rfl (Nat.le_of_ble_eq_true rfl) dX9_fatigueOn_7 rfl rfl ?_
  rintro v h' ⟨rfl, gT, aT, bT, cT, rfl, k', hkk, hdk, hk3, hc2, ha, hb⟩
  refine q_aload_n dX9_fatigueOn_10 rfl ?_
  refine fRX9_41 (o := some 1053) dX9_fatigueOn_11 rfl (by decide) (K.le (by decide)) (K.lk rfl) ?_
  refine q_rfS ?_
  refine fRX9_243 (o := some 1055) dX9_fatigueOn_14 rfl (by decide) (K.le (by decide)) (K.lk rfl) ?_
  refine q_rfS ?_
  refine q_iload_n dX9_fatigueOn_17 rfl ?_
  refine q_ialdN (len := 200) rfl dX9_fatigueOn_18 (by decide) (K.le (by decide)) rfl (by omega) (by decide) ?_
  refine q_tv (show _ = (q_dec (nI 7) W.D ((j) + 1)) from ((congrFun (q_rIn _ _ (by omega)) _).trans ((congrFun (q_rI _ _ _) _).trans (hb _ (by omega))))) ?_
  refine q_iret dX9_fatigueOn_19 rfl (Or.inl rfl) ?_
  exact Or.inr ⟨n2, _, rfl, rfl, ((q_rd.rf C).row (by omega) (by omega)).tr hk3 hc2 ha hb⟩
theorem g_X9_fatigueFromStart {Φ : q_Fx} {h : q_Hp} (K : q_Lk Φ h.R h.n) {W : q_W} {O : q_O} (C : q_clX h W O) {d : Int32} : q_Ct Φ false yX9_fatigueFromStart cX9_fatigueFromStart mX9_fatigueFromStart [.ref 1, .int d] h (q_u1 h W O (¬ (nI 0 ≤ d ∧ d ≤ nI W.t)) "java/lang/IllegalArgumentException" (fun v h' => v = some (.int (q_dec (nI 7) W.D (d.toNatClampNeg + 1))) ∧ q_rd h h' W O)) := by
  refine q_enter K.st rfl rfl (by decide) rfl (Nat.le_of_ble_eq_true rfl) (L := [_, _, none, none]) rfl ?_
  have C0 := C
  obtain ⟨k, hT⟩ := C.2
  have hk2 : k ≤ W.t + 1 := hT.2.1
  have V0 := C.1.1
  have V := C.1.1
  have ht9 := V.t9
  refine q_aload_n dX9_fatigueFromStart_0 rfl ?_
  refine q_iload_n dX9_fatigueFromStart_1 rfl ?_
  refine q_vT (kc := 0) (ks := 0) (g_X9_requireDayUpToToday (h := h) K V (d := d)) wX9_requireDayUpToToday kX9_83 iX9_requireDayUpToToday eX9_requireDayUpToToday rfl rfl (by decide) (K.le (by decide)) (by decide) rfl rfl (Nat.le_of_ble_eq_true rfl) dX9_fatigueFromStart_2 rfl rfl rfl (fun c1 => by exact Or.inl ⟨c1, rfl, q_rd.rf C⟩) (fun c2 => ?_)
  have n2 := c2
  obtain ⟨j, hj1, hj2, rfl⟩ := q_rng n2 (by omega) (by omega)
  try rw [nI_clamp (show j < 2 ^ 31 by omega)]
  refine q_aload_n dX9_fatigueFromStart_5 rfl ?_
  refine fRX9_12 (o := some 2) dX9_fatigueFromStart_6 rfl (by decide) (K.le (by decide)) (K.lk rfl) ?_
  refine q_rfS ?_
  refine q_aload_n dX9_fatigueFromStart_9 rfl ?_
  refine fRX9_52 (o := some 1057) dX9_fatigueFromStart_10 rfl (by decide) (K.le (by decide)) (K.lk rfl) ?_
  refine q_rfS ?_
  refine q_vD (kc := 0) (ks := 0) (g_X5_fillDayLoads (h := h) K V) wX5_fillDayLoads kX9_223 iX5_fillDayLoads eX5_fillDayLoads rfl rfl (by decide) (K.le (by decide)) (by decide) rfl rfl (Nat.le_of_ble_eq_true rfl) dX9_fatigueFromStart_13 rfl rfl ?_
  have hg57 : ∀ k, k < 200 → W.dl (h.I 1057) W.c k = W.D k := fun k hk => W.dl_in _ _ _ k hk
  generalize W.dl (h.I 1057) W.c = g57 at hg57 ⊢
  refine q_iconst (v := nI 0) dX9_fatigueFromStart_16 (by decide) ?_
  refine q_istore_n (L' := [_, _, _, _]) dX9_fatigueFromStart_17 rfl (by decide) rfl ?_
  refine q_iconst (v := nI 0) dX9_fatigueFromStart_18 (by decide) ?_
  refine q_istore_n (L' := [_, _, _, _]) dX9_fatigueFromStart_19 rfl (by decide) rfl ?_
  refine q_loop (ι := Nat) (μ := fun i => j + 1 - i) (P := fun i => i ≤ j + 1) (Lf := fun i => [some (.ref 1), some (.int (nI (j))), some (.int (q_dec (nI 7) W.D i)), some (.int (nI (i)))]) (hf := fun i => (h.rowI 1057 g57)) (fun i hi20 ih20 => ?_) 0 (by omega) (q_sub_s rfl (q_sub_i rfl (q_sub_i rfl (q_sub_i rfl q_sub_0)))) rfl
  skip
  refine q_iload_n dX9_fatigueFromStart_20 rfl ?_
  refine q_iload_n dX9_fatigueFromStart_21 rfl ?_
  refine q_icmp_gtN (by omega) (by omega) (tgt := 42) dX9_fatigueFromStart_22 rfl (fun c3 => ?_) (fun c4 => ?_)
  · refine q_iload_n dX9_fatigueFromStart_42 rfl ?_
    refine q_iret dX9_fatigueFromStart_43 rfl (Or.inl rfl) ?_
    exact Or.inr ⟨n2, _, rfl, by rw [show i = j + 1 by omega], (q_rd.rf C).row (by omega) (by omega)⟩
  · refine q_iload_n dX9_fatigueFromStart_25 rfl ?_
    refine q_aload_n dX9_fatigueFromStart_26 rfl ?_
    refine fRX9_52 (o := some 1057) dX9_fatigueFromStart_27 rfl (by decide) (K.le (by decide)) (K.lk rfl) ?_
    refine q_rfS ?_
    refine q_iload_n dX9_fatigueFromStart_30 rfl ?_
    refine q_ialdN (len := 200) rfl dX9_fatigueFromStart_31 (by decide) (K.le (by decide)) rfl (by omega) (by decide) ?_
    refine q_tv (show _ = (W.D (i)) from ((congrFun (q_rI _ _ _) _).trans (hg57 _ (by omega)))) ?_
    refine q_sD (kc := 0) (ks := 0) (g_X9_nextFatigue (h := (h.rowI 1057 g57)) K (f := (q_dec (nI 7) W.D i)) (l := (W.D (i)))) wX9_nextFatigue kX9_246 sX9_nextFatigue (by decide) rfl rfl (Nat.le_of_ble_eq_true rfl) dX9_fatigueFromStart_32 rfl rfl ?_
    refine q_istore_n (L' := [_, _, _, _]) dX9_fatigueFromStart_35 rfl (by decide) rfl ?_
    refine q_iincN (n := 1) (L' := [_, _, _, _]) (by decide) dX9_fatigueFromStart_36 rfl rfl (by decide) rfl ?_
    refine q_goto (tgt := 20) dX9_fatigueFromStart_39 rfl ?_
    exact q_to (ih20 (i + 1) (by omega) (by omega)) (q_sub_s rfl (q_sub_i rfl (q_sub_i rfl (q_sub_i rfl q_sub_0)))) rfl
theorem g_X9_formOn {Φ : q_Fx} {h : q_Hp} (K : q_Lk Φ h.R h.n) {W : q_W} {O : q_O} (C : q_clX h W O) {d : Int32} : q_Ct Φ false yX9_formOn cX9_formOn mX9_formOn [.ref 1, .int d] h (q_u1 h W O (¬ (nI 0 ≤ d ∧ d ≤ nI W.t)) "java/lang/IllegalArgumentException" (fun v h' => v = some (.int (W.fm d.toNatClampNeg)) ∧ q_rd h h' W O)) := by
  refine q_enter K.st rfl rfl (by decide) rfl (Nat.le_of_ble_eq_true rfl) (L := [_, _]) rfl ?_
  have C0 := C
  obtain ⟨k, hT⟩ := C.2
  have hk2 : k ≤ W.t + 1 := hT.2.1
  have V0 := C.1.1
  have V := C.1.1
  have ht9 := V.t9
  refine q_aload_n dX9_formOn_0 rfl ?_
  refine q_iload_n dX9_formOn_1 rfl ?_
  refine q_vT (kc := 0) (ks := 0) (g_X9_requireDayUpToToday (h := h) K V (d := d)) wX9_requireDayUpToToday kX9_83 iX9_requireDayUpToToday eX9_requireDayUpToToday rfl rfl (by decide) (K.le (by decide)) (by decide) rfl rfl (Nat.le_of_ble_eq_true rfl) dX9_formOn_2 rfl rfl rfl (fun c1 => by exact Or.inl ⟨c1, rfl, q_rd.rf C⟩) (fun c2 => ?_)
  have n2 := c2
  obtain ⟨j, hj1, hj2, rfl⟩ := q_rng n2 (by omega) (by omega)
  try rw [nI_clamp (show j < 2 ^ 31 by omega)]
  refine q_aload_n dX9_formOn_5 rfl ?_
  refine q_iload_n dX9_formOn_6 rfl ?_
  refine q_vR (kc := 0) (ks := 0) (g_X9_learnTrend (h := h) K V hT (d := j) (by omega)) wX9_learnTrend kX9_234 iX9_learnTrend eX9_learnTrend rfl rfl (by decide) (K.le (by decide)) (by decide) rfl rfl (Nat.le_of_ble_eq_true rfl) dX9_formOn_7 rfl rfl ?_
  rintro v h' ⟨rfl, gT, aT, bT, cT, rfl, k', hkk, hdk, hk3, hc2, ha, hb⟩
  refine q_aload_n dX9_formOn_10 rfl ?_
  refine fRX9_41 (o := some 1053) dX9_formOn_11 rfl (by decide) (K.le (by decide)) (K.lk rfl) ?_
  refine q_rfS ?_
  refine q_iload_n dX9_formOn_14 rfl ?_
  refine q_vD (kc := 0) (ks := 0) (g_X7_fitnessBefore (h := ((((h.rowI 1057 gT).rowI 1054 aT).rowI 1055 bT).rowI 1053 cT)) K (d := j) (by omega) (x := q_dec (nI 42) W.D (j)) (q_decB (a := aT) ha (by omega))) wX7_fitnessBefore kX9_249 iX7_fitnessBefore eX7_fitnessBefore rfl rfl (by decide) (K.le (by decide)) (by decide) rfl rfl (Nat.le_of_ble_eq_true rfl) dX9_formOn_15 rfl rfl ?_
  refine q_aload_n dX9_formOn_18 rfl ?_
  refine fRX9_41 (o := some 1053) dX9_formOn_19 rfl (by decide) (K.le (by decide)) (K.lk rfl) ?_
  refine q_rfS ?_
  refine q_iload_n dX9_formOn_22 rfl ?_
  refine q_vD (kc := 0) (ks := 0) (g_X7_fatigueBefore (h := ((((h.rowI 1057 gT).rowI 1054 aT).rowI 1055 bT).rowI 1053 cT)) K (d := j) (by omega) (x := q_dec (nI 7) W.D (j)) (q_decB (a := bT) hb (by omega))) wX7_fatigueBefore kX9_252 iX7_fatigueBefore eX7_fatigueBefore rfl rfl (by decide) (K.le (by decide)) (by decide) rfl rfl (Nat.le_of_ble_eq_true rfl) dX9_formOn_23 rfl rfl ?_
  refine q_isub dX9_formOn_26 ?_
  refine q_iret dX9_formOn_27 rfl (Or.inl rfl) ?_
  exact Or.inr ⟨n2, _, rfl, rfl, ((q_rd.rf C).row (by omega) (by omega)).tr hk3 hc2 ha hb⟩
theorem g_X9_bestFormDay {Φ : q_Fx} {h : q_Hp} (K : q_Lk Φ h.R h.n) {W : q_W} {O : q_O} (C : q_clX h W O) : q_Ct Φ false yX9_bestFormDay cX9_bestFormDay mX9_bestFormDay [.ref 1] h (q_ex (fun v h' => v = some (.int (nI (q_br W.fm W.t))) ∧ q_rd h h' W O)) := by
  refine q_enter K.st rfl rfl (by decide) rfl (Nat.le_of_ble_eq_true rfl) (L := [_, none, none, none, none]) rfl ?_
  have C0 := C
  obtain ⟨k, hT⟩ := C.2
  have hk2 : k ≤ W.t + 1 := hT.2.1
  have V0 := C.1.1
  have V := C.1.1
  have ht9 := V.t9
  refine q_aload_n dX9_bestFormDay_0 rfl ?_
  refine q_aload_n dX9_bestFormDay_1 rfl ?_
  refine fRX9_12 (o := some 2) dX9_bestFormDay_2 rfl (by decide) (K.le (by decide)) (K.lk rfl) ?_
  refine q_rfS ?_
  refine fIX9_69 dX9_bestFormDay_5 rfl (by decide) (K.le (by decide)) ?_
  refine q_tv (show _ = (nI (W.t)) from V.t) ?_
  refine q_vR (kc := 0) (ks := 0) (g_X9_learnTrend (h := h) K V hT (d := W.t) (by omega)) wX9_learnTrend kX9_234 iX9_learnTrend eX9_learnTrend rfl rfl (by decide) (K.le (by decide)) (by decide) rfl rfl (Nat.le_of_ble_eq_true rfl) dX9_bestFormDay_8 rfl rfl ?_
  rintro v h' ⟨rfl, gT, aT, bT, cT, rfl, k', hkk, hdk, hk3, hc2, ha, hb⟩
  refine q_iconst (v := nI 0) dX9_bestFormDay_11 (by decide) ?_
  refine q_istore_n (L' := [_, _, _, _, _]) dX9_bestFormDay_12 rfl (by decide) rfl ?_
  refine q_iconst (v := nI 0) dX9_bestFormDay_13 (by decide) ?_
  refine q_istore_n (L' := [_, _, _, _, _]) dX9_bestFormDay_14 rfl (by decide) rfl ?_
  refine q_iconst (v := nI 1) dX9_bestFormDay_15 (by decide) ?_
  refine q_istore_n (L' := [_, _, _, _, _]) dX9_bestFormDay_16 rfl (by decide) rfl ?_
  refine q_loop (ι := Nat) (μ := fun i => W.t - i) (P := fun i => i ≤ W.t) (Lf := fun i => [some (.ref 1), some (.int (W.fm (q_br W.fm i))), some (.int (nI (q_br W.fm i))), some (.int (nI (i + 1))), none]) (hf := fun i => ((((h.rowI 1057 gT).rowI 1054 aT).rowI 1055 bT).rowI 1053 cT)) (fun i hi17 ih17 => ?_) 0 (by omega) (q_sub_s rfl (q_sub_i (show nI 0 = nI 0 - nI 0 from by decide) (q_sub_i rfl (q_sub_i rfl (q_sub_n q_sub_0))))) rfl
  skip
  refine q_iload_n dX9_bestFormDay_17 rfl ?_
  refine q_aload_n dX9_bestFormDay_18 rfl ?_
  refine fRX9_12 (o := some 2) dX9_bestFormDay_19 rfl (by decide) (K.le (by decide)) (K.lk rfl) ?_
  refine q_rfS ?_
  refine fIX9_69 dX9_bestFormDay_22 rfl (by decide) (K.le (by decide)) ?_
  refine q_tv (show _ = (nI (W.t)) from ((congrFun (q_rIn _ _ (by omega)) _).trans ((congrFun (q_rIn _ _ (by omega)) _).trans ((congrFun (q_rIn _ _ (by omega)) _).trans ((congrFun (q_rIn _ _ (by omega)) _).trans V.t))))) ?_
  refine q_icmp_gtN (by omega) (by omega) (tgt := 64) dX9_bestFormDay_25 rfl (fun c1 => ?_) (fun c2 => ?_)
  · refine q_iload_n dX9_bestFormDay_64 rfl ?_
    refine q_iret dX9_bestFormDay_65 rfl (Or.inl rfl) ?_
    exact ⟨_, rfl, by rw [show i = W.t by omega], ((q_rd.rf C).row (by omega) (by omega)).tr hk3 hc2 ha hb⟩
  · refine q_aload_n dX9_bestFormDay_28 rfl ?_
    refine fRX9_41 (o := some 1053) dX9_bestFormDay_29 rfl (by decide) (K.le (by decide)) (K.lk rfl) ?_
    refine q_rfS ?_
    refine q_iload_n dX9_bestFormDay_32 rfl ?_
    refine q_vD (kc := 0) (ks := 0) (g_X7_fitnessBefore (h := ((((h.rowI 1057 gT).rowI 1054 aT).rowI 1055 bT).rowI 1053 cT)) K (d := i + 1) (by omega) (x := q_dec (nI 42) W.D (i + 1)) (q_decB (a := aT) ha (by omega))) wX7_fitnessBefore kX9_249 iX7_fitnessBefore eX7_fitnessBefore rfl rfl (by decide) (K.le (by decide)) (by decide) rfl rfl (Nat.le_of_ble_eq_true rfl) dX9_bestFormDay_33 rfl rfl ?_
    refine q_aload_n dX9_bestFormDay_36 rfl ?_
    refine fRX9_41 (o := some 1053) dX9_bestFormDay_37 rfl (by decide) (K.le (by decide)) (K.lk rfl) ?_
    refine q_rfS ?_
    refine q_iload_n dX9_bestFormDay_40 rfl ?_
    refine q_vD (kc := 0) (ks := 0) (g_X7_fatigueBefore (h := ((((h.rowI 1057 gT).rowI 1054 aT).rowI 1055 bT).rowI 1053 cT)) K (d := i + 1) (by omega) (x := q_dec (nI 7) W.D (i + 1)) (q_decB (a := bT) hb (by omega))) wX7_fatigueBefore kX9_252 iX7_fatigueBefore eX7_fatigueBefore rfl rfl (by decide) (K.le (by decide)) (by decide) rfl rfl (Nat.le_of_ble_eq_true rfl) dX9_bestFormDay_41 rfl rfl ?_
    refine q_isub dX9_bestFormDay_44 ?_
    refine q_istore (L' := [_, _, _, _, _]) dX9_bestFormDay_45 rfl (by decide) rfl ?_
    refine q_iload dX9_bestFormDay_47 rfl ?_
    refine q_iload_n dX9_bestFormDay_49 rfl ?_
    refine q_icmp_le (tgt := 58) dX9_bestFormDay_50 rfl (fun c3 => ?_) (fun c4 => ?_)
    · refine q_iincN (n := 1) (L' := [_, _, _, _, _]) (by decide) dX9_bestFormDay_58 rfl rfl (by decide) rfl ?_
      refine q_goto (tgt := 17) dX9_bestFormDay_61 rfl ?_
      exact q_to (ih17 (i + 1) (by omega) (by omega)) (q_sub_s rfl (q_sub_i (by simp only [q_br]; split <;> first | rfl | (exfalso; unfold q_W.fm at *; simp only [Int32.lt_iff_toInt_lt, Int32.le_iff_toInt_le] at *; omega)) (q_sub_i (by simp only [q_br]; split <;> first | rfl | (exfalso; unfold q_W.fm at *; simp only [Int32.lt_iff_toInt_lt, Int32.le_iff_toInt_le] at *; omega)) (q_sub_i rfl (q_sub_n q_sub_0))))) rfl
    · refine q_iload dX9_bestFormDay_53 rfl ?_
      refine q_istore_n (L' := [_, _, _, _, _]) dX9_bestFormDay_55 rfl (by decide) rfl ?_
      refine q_iload_n dX9_bestFormDay_56 rfl ?_
      refine q_istore_n (L' := [_, _, _, _, _]) dX9_bestFormDay_57 rfl (by decide) rfl ?_
      refine q_iincN (n := 1) (L' := [_, _, _, _, _]) (by decide) dX9_bestFormDay_58 rfl rfl (by decide) rfl ?_
      refine q_goto (tgt := 17) dX9_bestFormDay_61 rfl ?_
      exact q_to (ih17 (i + 1) (by omega) (by omega)) (q_sub_s rfl (q_sub_i (by simp only [q_br]; split <;> first | rfl | (exfalso; unfold q_W.fm at *; simp only [Int32.lt_iff_toInt_lt, Int32.le_iff_toInt_le] at *; omega)) (q_sub_i (by simp only [q_br]; split <;> first | rfl | (exfalso; unfold q_W.fm at *; simp only [Int32.lt_iff_toInt_lt, Int32.le_iff_toInt_le] at *; omega)) (q_sub_i rfl (q_sub_n q_sub_0))))) rfl
theorem g_X9_daysToForm {Φ : q_Fx} {h : q_Hp} (K : q_Lk Φ h.R h.n) {W : q_W} {O : q_O} (C : q_clX h W O) {x : Int32} : q_Ct Φ false yX9_daysToForm cX9_daysToForm mX9_daysToForm [.ref 1, .int x] h (q_u2 h W O (¬ (-100000 ≤ x ∧ x ≤ nI 100000)) "java/lang/IllegalArgumentException" (q_ps (fun n => decide (x ≤ W.G n)) 201 < 0) "java/util/NoSuchElementException" (fun v h' => v = some (.int (q_ps (fun n => decide (x ≤ W.G n)) 201)) ∧ q_rd h h' W O)) := by
  refine q_enter K.st rfl rfl (by decide) rfl (Nat.le_of_ble_eq_true rfl) (L := [_, _, none, none, none]) rfl ?_
  have C0 := C
  obtain ⟨k, hT⟩ := C.2
  have hk2 : k ≤ W.t + 1 := hT.2.1
  have V0 := C.1.1
  have V := C.1.1
  have ht9 := V.t9
  refine q_iload_n dX9_daysToForm_0 rfl ?_
  refine q_ldc dX9_daysToForm_1 kcX9_255 ?_
  refine q_ldcw dX9_daysToForm_3 kcX9_256 ?_
  refine q_tv (show _ = nI 100000 from by decide) ?_
  refine q_sT (kc := 1) (ks := 6) (g_X9_requireRange (h := h) K (v := x) (lo := (-100000)) (hi := (nI (100000)))) wX9_requireRange kX9_65 sX9_requireRange (by decide) rfl rfl (Nat.le_of_ble_eq_true rfl) dX9_daysToForm_6 rfl rfl rfl (fun c1 => by exact Or.inl ⟨c1, rfl, q_rd.rf C⟩) (fun c2 => ?_)
  have n6 := c2
  refine q_aload_n dX9_daysToForm_9 rfl ?_
  refine q_aload_n dX9_daysToForm_10 rfl ?_
  refine fRX9_12 (o := some 2) dX9_daysToForm_11 rfl (by decide) (K.le (by decide)) (K.lk rfl) ?_
  refine q_rfS ?_
  refine fIX9_69 dX9_daysToForm_14 rfl (by decide) (K.le (by decide)) ?_
  refine q_tv (show _ = (nI (W.t)) from V.t) ?_
  refine q_vR (kc := 1) (ks := 6) (g_X9_learnTrend (h := h) K V hT (d := W.t) (by omega)) wX9_learnTrend kX9_234 iX9_learnTrend eX9_learnTrend rfl rfl (by decide) (K.le (by decide)) (by decide) rfl rfl (Nat.le_of_ble_eq_true rfl) dX9_daysToForm_17 rfl rfl ?_
  rintro v h' ⟨rfl, gT, aT, bT, cT, rfl, k', hkk, hdk, hk3, hc2, ha, hb⟩
  refine q_aload_n dX9_daysToForm_20 rfl ?_
  refine fRX9_41 (o := some 1053) dX9_daysToForm_21 rfl (by decide) (K.le (by decide)) (K.lk rfl) ?_
  refine q_rfS ?_
  refine q_aload_n dX9_daysToForm_24 rfl ?_
  refine fRX9_12 (o := some 2) dX9_daysToForm_25 rfl (by decide) (K.le (by decide)) (K.lk rfl) ?_
  refine q_rfS ?_
  refine fIX9_69 dX9_daysToForm_28 rfl (by decide) (K.le (by decide)) ?_
  refine q_tv (show _ = (nI (W.t)) from ((congrFun (q_rIn _ _ (by omega)) _).trans ((congrFun (q_rIn _ _ (by omega)) _).trans ((congrFun (q_rIn _ _ (by omega)) _).trans ((congrFun (q_rIn _ _ (by omega)) _).trans V.t))))) ?_
  refine q_vD (kc := 1) (ks := 6) (g_X7_fitnessBefore (h := ((((h.rowI 1057 gT).rowI 1054 aT).rowI 1055 bT).rowI 1053 cT)) K (d := W.t) (by omega) (x := q_dec (nI 42) W.D (W.t)) (q_decB (a := aT) ha (by omega))) wX7_fitnessBefore kX9_249 iX7_fitnessBefore eX7_fitnessBefore rfl rfl (by decide) (K.le (by decide)) (by decide) rfl rfl (Nat.le_of_ble_eq_true rfl) dX9_daysToForm_31 rfl rfl ?_
  refine q_aload_n dX9_daysToForm_34 rfl ?_
  refine fRX9_41 (o := some 1053) dX9_daysToForm_35 rfl (by decide) (K.le (by decide)) (K.lk rfl) ?_
  refine q_rfS ?_
  refine q_aload_n dX9_daysToForm_38 rfl ?_
  refine fRX9_12 (o := some 2) dX9_daysToForm_39 rfl (by decide) (K.le (by decide)) (K.lk rfl) ?_
  refine q_rfS ?_
  refine fIX9_69 dX9_daysToForm_42 rfl (by decide) (K.le (by decide)) ?_
  refine q_tv (show _ = (nI (W.t)) from ((congrFun (q_rIn _ _ (by omega)) _).trans ((congrFun (q_rIn _ _ (by omega)) _).trans ((congrFun (q_rIn _ _ (by omega)) _).trans ((congrFun (q_rIn _ _ (by omega)) _).trans V.t))))) ?_
  refine q_vD (kc := 1) (ks := 6) (g_X7_fatigueBefore (h := ((((h.rowI 1057 gT).rowI 1054 aT).rowI 1055 bT).rowI 1053 cT)) K (d := W.t) (by omega) (x := q_dec (nI 7) W.D (W.t)) (q_decB (a := bT) hb (by omega))) wX7_fatigueBefore kX9_252 iX7_fatigueBefore eX7_fatigueBefore rfl rfl (by decide) (K.le (by decide)) (by decide) rfl rfl (Nat.le_of_ble_eq_true rfl) dX9_daysToForm_45 rfl rfl ?_
  refine q_isub dX9_daysToForm_48 ?_
  refine q_iload_n dX9_daysToForm_49 rfl ?_
  refine q_icmp_lt (tgt := 55) dX9_daysToForm_50 rfl (fun c3 => ?_) (fun c4 => ?_)
  · refine q_aload_n dX9_daysToForm_55 rfl ?_
    refine fRX9_41 (o := some 1053) dX9_daysToForm_56 rfl (by decide) (K.le (by decide)) (K.lk rfl) ?_
    refine q_rfS ?_
    refine fRX9_237 (o := some 1054) dX9_daysToForm_59 rfl (by decide) (K.le (by decide)) (K.lk rfl) ?_
    refine q_rfS ?_
    refine q_aload_n dX9_daysToForm_62 rfl ?_
    refine fRX9_12 (o := some 2) dX9_daysToForm_63 rfl (by decide) (K.le (by decide)) (K.lk rfl) ?_
    refine q_rfS ?_
    refine fIX9_69 dX9_daysToForm_66 rfl (by decide) (K.le (by decide)) ?_
    refine q_tv (show _ = (nI (W.t)) from ((congrFun (q_rIn _ _ (by omega)) _).trans ((congrFun (q_rIn _ _ (by omega)) _).trans ((congrFun (q_rIn _ _ (by omega)) _).trans ((congrFun (q_rIn _ _ (by omega)) _).trans V.t))))) ?_
    refine q_ialdN (len := 200) rfl dX9_daysToForm_69 (by decide) (K.le (by decide)) rfl (by omega) (by decide) ?_
    refine q_tv (show _ = (q_dec (nI 42) W.D ((W.t) + 1)) from ((congrFun (q_rIn _ _ (by omega)) _).trans ((congrFun (q_rIn _ _ (by omega)) _).trans ((congrFun (q_rI _ _ _) _).trans (ha _ (by omega)))))) ?_
    refine q_istore_n (L' := [_, _, _, _, _]) dX9_daysToForm_70 rfl (by decide) rfl ?_
    refine q_aload_n dX9_daysToForm_71 rfl ?_
    refine fRX9_41 (o := some 1053) dX9_daysToForm_72 rfl (by decide) (K.le (by decide)) (K.lk rfl) ?_
    refine q_rfS ?_
    refine fRX9_243 (o := some 1055) dX9_daysToForm_75 rfl (by decide) (K.le (by decide)) (K.lk rfl) ?_
    refine q_rfS ?_
    refine q_aload_n dX9_daysToForm_78 rfl ?_
    refine fRX9_12 (o := some 2) dX9_daysToForm_79 rfl (by decide) (K.le (by decide)) (K.lk rfl) ?_
    refine q_rfS ?_
    refine fIX9_69 dX9_daysToForm_82 rfl (by decide) (K.le (by decide)) ?_
    refine q_tv (show _ = (nI (W.t)) from ((congrFun (q_rIn _ _ (by omega)) _).trans ((congrFun (q_rIn _ _ (by omega)) _).trans ((congrFun (q_rIn _ _ (by omega)) _).trans ((congrFun (q_rIn _ _ (by omega)) _).trans V.t))))) ?_
    refine q_ialdN (len := 200) rfl dX9_daysToForm_85 (by decide) (K.le (by decide)) rfl (by omega) (by decide) ?_
    refine q_tv (show _ = (q_dec (nI 7) W.D ((W.t) + 1)) from ((congrFun (q_rIn _ _ (by omega)) _).trans ((congrFun (q_rI _ _ _) _).trans (hb _ (by omega))))) ?_
    refine q_istore_n (L' := [_, _, _, _, _]) dX9_daysToForm_86 rfl (by decide) rfl ?_
    refine q_iconst (v := nI 1) dX9_daysToForm_87 (by decide) ?_
    refine q_istore (L' := [_, _, _, _, _]) dX9_daysToForm_88 rfl (by decide) rfl ?_
    refine q_loop (ι := Nat) (μ := fun n => 200 - n) (P := fun n => n ≤ 200 ∧ ∀ j, j < n + 1 → decide (x ≤ W.G j) = false) (Lf := fun n => [some (.ref 1), some (.int x), some (.int (q_dz (nI 42) (q_dec (nI 42) W.D (W.t + 1)) n)), some (.int (q_dz (nI 7) (q_dec (nI 7) W.D (W.t + 1)) n)), some (.int (nI (n + 1)))]) (hf := fun n => ((((h.rowI 1057 gT).rowI 1054 aT).rowI 1055 bT).rowI 1053 cT)) (fun n hi90 ih90 => ?_) 0 (⟨by omega, q_ne_s (fun j hj => absurd hj (Nat.not_lt_zero j)) (decide_eq_false (Int32.not_le.mpr (by assumption)))⟩) (q_sub_s rfl (q_sub_i rfl (q_sub_i rfl (q_sub_i rfl (q_sub_i rfl q_sub_0))))) rfl
    skip
    obtain ⟨hn, hf⟩ := hi90
    refine q_iload dX9_daysToForm_90 rfl ?_
    refine q_sipush (v := nI 200) dX9_daysToForm_92 (by decide) ?_
    refine q_icmp_gtN (by omega) (by omega) (tgt := 126) dX9_daysToForm_95 rfl (fun c5 => ?_) (fun c6 => ?_)
    · refine q_throw13W (text := "the form is not reached") tw_117_121 (by decide) rfl ?_ dX9_daysToForm_126 dX9_daysToForm_129 dX9_daysToForm_130 dX9_daysToForm_133 dX9_daysToForm_136 (by decide) (by decide) (by decide) (by decide)
      have e : q_ps (fun n => decide (x ≤ W.G n)) 201 = -1 := q_ps_n fun j hj => hf j (by omega)
      exact Or.inr (Or.inl ⟨n6, by rw [e]; decide, rfl, ((q_rd.rf C).row (by omega) (by omega)).tr hk3 hc2 ha hb⟩)
    · refine q_iload_n dX9_daysToForm_98 rfl ?_
      refine q_iload_n dX9_daysToForm_99 rfl ?_
      refine q_isub dX9_daysToForm_100 ?_
      refine q_iload_n dX9_daysToForm_101 rfl ?_
      refine q_icmp_lt (tgt := 108) dX9_daysToForm_102 rfl (fun c7 => ?_) (fun c8 => ?_)
      · refine q_iload_n dX9_daysToForm_108 rfl ?_
        refine q_iconst (v := nI 0) dX9_daysToForm_109 (by decide) ?_
        refine q_sD (kc := 1) (ks := 6) (g_X9_nextFitness (h := ((((h.rowI 1057 gT).rowI 1054 aT).rowI 1055 bT).rowI 1053 cT)) K (f := (q_dz (nI 42) (q_dec (nI 42) W.D (W.t + 1)) n)) (l := (nI (0)))) wX9_nextFitness kX9_240 sX9_nextFitness (by decide) rfl rfl (Nat.le_of_ble_eq_true rfl) dX9_daysToForm_110 rfl rfl ?_
        refine q_istore_n (L' := [_, _, _, _, _]) dX9_daysToForm_113 rfl (by decide) rfl ?_
        refine q_iload_n dX9_daysToForm_114 rfl ?_
        refine q_iconst (v := nI 0) dX9_daysToForm_115 (by decide) ?_
        refine q_sD (kc := 1) (ks := 6) (g_X9_nextFatigue (h := ((((h.rowI 1057 gT).rowI 1054 aT).rowI 1055 bT).rowI 1053 cT)) K (f := (q_dz (nI 7) (q_dec (nI 7) W.D (W.t + 1)) n)) (l := (nI (0)))) wX9_nextFatigue kX9_246 sX9_nextFatigue (by decide) rfl rfl (Nat.le_of_ble_eq_true rfl) dX9_daysToForm_116 rfl rfl ?_
        refine q_istore_n (L' := [_, _, _, _, _]) dX9_daysToForm_119 rfl (by decide) rfl ?_
        refine q_iincN (n := 1) (L' := [_, _, _, _, _]) (by decide) dX9_daysToForm_120 rfl rfl (by decide) rfl ?_
        refine q_goto (tgt := 90) dX9_daysToForm_123 rfl ?_
        exact q_to (ih90 (n + 1) (⟨by omega, q_ne_s hf (decide_eq_false (Int32.not_le.mpr (by assumption)))⟩) (by omega)) (q_sub_s rfl (q_sub_i rfl (q_sub_i rfl (q_sub_i rfl (q_sub_i rfl q_sub_0))))) rfl
      · refine q_iload dX9_daysToForm_105 rfl ?_
        refine q_iret dX9_daysToForm_107 rfl (Or.inl rfl) ?_
        have e : q_ps (fun n => decide (x ≤ W.G n)) 201 = nI (n + 1) := q_ps_i (by omega) (decide_eq_true (Int32.not_lt.mp (by assumption))) hf
        exact Or.inr (Or.inr ⟨n6, (by rw [e]; exact nI_pos (by omega)), _, rfl, by rw [e], ((q_rd.rf C).row (by omega) (by omega)).tr hk3 hc2 ha hb⟩)
  · refine q_iconst (v := nI 0) dX9_daysToForm_53 (by decide) ?_
    refine q_iret dX9_daysToForm_54 rfl (Or.inl rfl) ?_
    have e : q_ps (fun n => decide (x ≤ W.G n)) 201 = nI 0 := q_ps_i (by omega) (decide_eq_true (Int32.not_lt.mp (by assumption))) (fun j hj => absurd hj (Nat.not_lt_zero j))
    exact Or.inr (Or.inr ⟨n6, (by rw [e]; decide), _, rfl, by rw [e], ((q_rd.rf C).row (by omega) (by omega)).tr hk3 hc2 ha hb⟩)
theorem q_rowt {t j : Nat} (h : ¬ nI t < nI j - nI 1) (h1 : 1 ≤ j) (ht : t < 2 ^ 30) (hj : j < 2 ^ 30) : j ≤ t + 1 := by
  rw [pk_sub h1, nI_ltI (by omega) (by omega)] at h
  omega
theorem q_row0 {t j : Nat} (h1 : 1 ≤ j) (ht : t < 2 ^ 30) (hj : j < 2 ^ 30) : (¬ nI t < nI j - nI 1) ↔ j ≤ t + 1 := by
  rw [pk_sub h1, nI_ltI (by omega) (by omega)]
  omega
theorem g_X9_bestDaysStart {Φ : q_Fx} {h : q_Hp} (K : q_Lk Φ h.R h.n) {W : q_W} {O : q_O} (C : q_clX h W O) {n : Int32} : q_Ct Φ false yX9_bestDaysStart cX9_bestDaysStart mX9_bestDaysStart [.ref 1, .int n] h (q_u2 h W O (¬ (nI 1 ≤ n ∧ n ≤ nI 60)) "java/lang/IllegalArgumentException" (nI W.t < n - nI 1) "java/util/NoSuchElementException" (fun v h' => v = some (.int (nI (q_br (fun a => q_sum (fun k => W.D (a + k)) n.toNatClampNeg) (W.t + 1 - n.toNatClampNeg)))) ∧ q_rd h h' W O)) := by
  refine q_enter K.st rfl rfl (by decide) rfl (Nat.le_of_ble_eq_true rfl) (L := [_, _]) rfl ?_
  have C0 := C
  obtain ⟨k, hT⟩ := C.2
  have hk2 : k ≤ W.t + 1 := hT.2.1
  have V0 := C.1.1
  have V := C.1.1
  have ht9 := V.t9
  refine q_aload_n dX9_bestDaysStart_0 rfl ?_
  refine q_iload_n dX9_bestDaysStart_1 rfl ?_
  refine q_vT2 (kc := 0) (ks := 0) (g_X9_requireRowOfDays (h := h) K V (n := n)) wX9_requireRowOfDays kX9_259 iX9_requireRowOfDays eX9_requireRowOfDays rfl rfl (by decide) (K.le (by decide)) (by decide) rfl rfl (Nat.le_of_ble_eq_true rfl) dX9_bestDaysStart_2 rfl rfl rfl (fun c1 => by exact Or.inl ⟨c1, rfl, q_rd.rf C⟩) (fun c1 c2 => by exact Or.inr (Or.inl ⟨c1, c2, rfl, q_rd.rf C⟩)) (fun n1 n2 => ?_)
  rintro v h' ⟨rfl, e9⟩
  rw [e9]
  obtain ⟨j, hj1, hj2, rfl⟩ := q_rng n1 (by omega) (by omega)
  have hjt : j ≤ W.t + 1 := q_rowt n2 hj1 (by omega) (by omega)
  try rw [nI_clamp (show j < 2 ^ 31 by omega)]
  refine q_aload_n dX9_bestDaysStart_5 rfl ?_
  refine q_iload_n dX9_bestDaysStart_6 rfl ?_
  refine q_vR (kc := 0) (ks := 0) (g_X9_startOfBestDays (h := h) K V (n := j) (by omega) (by omega)) wX9_startOfBestDays kX9_262 iX9_startOfBestDays eX9_startOfBestDays rfl rfl (by decide) (K.le (by decide)) (by decide) rfl rfl (Nat.le_of_ble_eq_true rfl) dX9_bestDaysStart_7 rfl rfl ?_
  rintro v h' ⟨rfl, g57, rfl, hg57⟩
  have hbr := q_br_le (fun a => q_sum (fun k => W.D (a + k)) j) (W.t + 1 - j)
  refine q_iret dX9_bestDaysStart_10 rfl (Or.inl rfl) ?_
  exact Or.inr (Or.inr ⟨n1, n2, _, rfl, rfl, (q_rd.rf C).row (by omega) (by omega)⟩)
theorem g_X9_bestDays {Φ : q_Fx} {h : q_Hp} (K : q_Lk Φ h.R h.n) {W : q_W} {O : q_O} (C : q_clX h W O) {n : Int32} : q_Ct Φ false yX9_bestDays cX9_bestDays mX9_bestDays [.ref 1, .int n] h (q_u2 h W O (¬ (nI 1 ≤ n ∧ n ≤ nI 60)) "java/lang/IllegalArgumentException" (nI W.t < n - nI 1) "java/util/NoSuchElementException" (fun v h' => v = some (.int (q_sum (fun k => W.D ((q_br (fun a => q_sum (fun k => W.D (a + k)) n.toNatClampNeg) (W.t + 1 - n.toNatClampNeg)) + k)) n.toNatClampNeg)) ∧ q_rd h h' W O)) := by
  refine q_enter K.st rfl rfl (by decide) rfl (Nat.le_of_ble_eq_true rfl) (L := [_, _, none]) rfl ?_
  have C0 := C
  obtain ⟨k, hT⟩ := C.2
  have hk2 : k ≤ W.t + 1 := hT.2.1
  have V0 := C.1.1
  have V := C.1.1
  have ht9 := V.t9
  refine q_aload_n dX9_bestDays_0 rfl ?_
  refine q_iload_n dX9_bestDays_1 rfl ?_
  refine q_vT2 (kc := 0) (ks := 0) (g_X9_requireRowOfDays (h := h) K V (n := n)) wX9_requireRowOfDays kX9_259 iX9_requireRowOfDays eX9_requireRowOfDays rfl rfl (by decide) (K.le (by decide)) (by decide) rfl rfl (Nat.le_of_ble_eq_true rfl) dX9_bestDays_2 rfl rfl rfl (fun c1 => by exact Or.inl ⟨c1, rfl, q_rd.rf C⟩) (fun c1 c2 => by exact Or.inr (Or.inl ⟨c1, c2, rfl, q_rd.rf C⟩)) (fun n1 n2 => ?_)
  rintro v h' ⟨rfl, e9⟩
  rw [e9]
  obtain ⟨j, hj1, hj2, rfl⟩ := q_rng n1 (by omega) (by omega)
  have hjt : j ≤ W.t + 1 := q_rowt n2 hj1 (by omega) (by omega)
  try rw [nI_clamp (show j < 2 ^ 31 by omega)]
  refine q_aload_n dX9_bestDays_5 rfl ?_
  refine q_iload_n dX9_bestDays_6 rfl ?_
  refine q_vR (kc := 0) (ks := 0) (g_X9_startOfBestDays (h := h) K V (n := j) (by omega) (by omega)) wX9_startOfBestDays kX9_262 iX9_startOfBestDays eX9_startOfBestDays rfl rfl (by decide) (K.le (by decide)) (by decide) rfl rfl (Nat.le_of_ble_eq_true rfl) dX9_bestDays_7 rfl rfl ?_
  rintro v h' ⟨rfl, g57, rfl, hg57⟩
  have hbr := q_br_le (fun a => q_sum (fun k => W.D (a + k)) j) (W.t + 1 - j)
  refine q_istore_n (L' := [_, _, _]) dX9_bestDays_10 rfl (by decide) rfl ?_
  refine q_aload_n dX9_bestDays_11 rfl ?_
  refine q_iload_n dX9_bestDays_12 rfl ?_
  refine q_iload_n dX9_bestDays_13 rfl ?_
  refine q_vD (kc := 0) (ks := 0) (g_X9_sumOfLoads (h := (h.rowI 1057 g57)) K (V.row (a := 1057) (by decide)) (fun k hk => (congrFun (q_rI _ _ _) _).trans (hg57 k hk)) (a := (q_br (fun a => q_sum (fun k => W.D (a + k)) j) (W.t + 1 - j))) (n := j) (by omega)) wX9_sumOfLoads kX9_231 iX9_sumOfLoads eX9_sumOfLoads rfl rfl (by decide) (K.le (by decide)) (by decide) rfl rfl (Nat.le_of_ble_eq_true rfl) dX9_bestDays_14 rfl rfl ?_
  refine q_iret dX9_bestDays_17 rfl (Or.inl rfl) ?_
  exact Or.inr (Or.inr ⟨n1, n2, _, rfl, rfl, (q_rd.rf C).row (by omega) (by omega)⟩)
theorem g_X9_bestDaysByTrying {Φ : q_Fx} {h : q_Hp} (K : q_Lk Φ h.R h.n) {W : q_W} {O : q_O} (C : q_clX h W O) {n : Int32} : q_Ct Φ false yX9_bestDaysByTrying cX9_bestDaysByTrying mX9_bestDaysByTrying [.ref 1, .int n] h (q_u2 h W O (¬ (nI 1 ≤ n ∧ n ≤ nI 60)) "java/lang/IllegalArgumentException" (nI W.t < n - nI 1) "java/util/NoSuchElementException" (fun v h' => v = some (.int (q_mz (fun a => q_sum (fun k => W.D (a + k)) n.toNatClampNeg) (W.t + 2 - n.toNatClampNeg))) ∧ q_rd h h' W O)) := by
  refine q_enter K.st rfl rfl (by decide) rfl (Nat.le_of_ble_eq_true rfl) (L := [_, _, none, none]) rfl ?_
  have C0 := C
  obtain ⟨k, hT⟩ := C.2
  have hk2 : k ≤ W.t + 1 := hT.2.1
  have V0 := C.1.1
  have V := C.1.1
  have ht9 := V.t9
  refine q_aload_n dX9_bestDaysByTrying_0 rfl ?_
  refine q_iload_n dX9_bestDaysByTrying_1 rfl ?_
  refine q_vT2 (kc := 0) (ks := 0) (g_X9_requireRowOfDays (h := h) K V (n := n)) wX9_requireRowOfDays kX9_259 iX9_requireRowOfDays eX9_requireRowOfDays rfl rfl (by decide) (K.le (by decide)) (by decide) rfl rfl (Nat.le_of_ble_eq_true rfl) dX9_bestDaysByTrying_2 rfl rfl rfl (fun c1 => by exact Or.inl ⟨c1, rfl, q_rd.rf C⟩) (fun c1 c2 => by exact Or.inr (Or.inl ⟨c1, c2, rfl, q_rd.rf C⟩)) (fun n1 n2 => ?_)
  rintro v h' ⟨rfl, e9⟩
  rw [e9]
  obtain ⟨j, hj1, hj2, rfl⟩ := q_rng n1 (by omega) (by omega)
  have hjt : j ≤ W.t + 1 := q_rowt n2 hj1 (by omega) (by omega)
  try rw [nI_clamp (show j < 2 ^ 31 by omega)]
  refine q_aload_n dX9_bestDaysByTrying_5 rfl ?_
  refine fRX9_12 (o := some 2) dX9_bestDaysByTrying_6 rfl (by decide) (K.le (by decide)) (K.lk rfl) ?_
  refine q_rfS ?_
  refine q_aload_n dX9_bestDaysByTrying_9 rfl ?_
  refine fRX9_52 (o := some 1057) dX9_bestDaysByTrying_10 rfl (by decide) (K.le (by decide)) (K.lk rfl) ?_
  refine q_rfS ?_
  refine q_vD (kc := 0) (ks := 0) (g_X5_fillDayLoads (h := h) K V) wX5_fillDayLoads kX9_223 iX5_fillDayLoads eX5_fillDayLoads rfl rfl (by decide) (K.le (by decide)) (by decide) rfl rfl (Nat.le_of_ble_eq_true rfl) dX9_bestDaysByTrying_13 rfl rfl ?_
  have hg57 : ∀ k, k < 200 → W.dl (h.I 1057) W.c k = W.D k := fun k hk => W.dl_in _ _ _ k hk
  generalize W.dl (h.I 1057) W.c = g57 at hg57 ⊢
  refine q_iconst (v := nI 0) dX9_bestDaysByTrying_16 (by decide) ?_
  refine q_istore_n (L' := [_, _, _, _]) dX9_bestDaysByTrying_17 rfl (by decide) rfl ?_
  refine q_iconst (v := nI 0) dX9_bestDaysByTrying_18 (by decide) ?_
  refine q_istore_n (L' := [_, _, _, _]) dX9_bestDaysByTrying_19 rfl (by decide) rfl ?_
  refine q_loop (ι := Nat) (μ := fun i => W.t + 2 - j - i) (P := fun i => i ≤ W.t + 2 - j) (Lf := fun i => [some (.ref 1), some (.int (nI (j))), some (.int (q_mz (fun a => q_sum (fun k => W.D (a + k)) j) i)), some (.int (nI (i)))]) (hf := fun i => (h.rowI 1057 g57)) (fun i hi20 ih20 => ?_) 0 (by omega) (q_sub_s rfl (q_sub_i rfl (q_sub_i rfl (q_sub_i rfl q_sub_0)))) rfl
  skip
  refine q_iload_n dX9_bestDaysByTrying_20 rfl ?_
  refine q_iload_n dX9_bestDaysByTrying_21 rfl ?_
  refine q_iaddN dX9_bestDaysByTrying_22 ?_
  refine q_aload_n dX9_bestDaysByTrying_23 rfl ?_
  refine fRX9_12 (o := some 2) dX9_bestDaysByTrying_24 rfl (by decide) (K.le (by decide)) (K.lk rfl) ?_
  refine q_rfS ?_
  refine fIX9_69 dX9_bestDaysByTrying_27 rfl (by decide) (K.le (by decide)) ?_
  refine q_tv (show _ = (nI (W.t)) from ((congrFun (q_rIn _ _ (by omega)) _).trans V.t)) ?_
  refine q_iconst (v := nI 1) dX9_bestDaysByTrying_30 (by decide) ?_
  refine q_iaddN dX9_bestDaysByTrying_31 ?_
  refine q_icmp_gtN (by omega) (by omega) (tgt := 52) dX9_bestDaysByTrying_32 rfl (fun c1 => ?_) (fun c2 => ?_)
  · refine q_iload_n dX9_bestDaysByTrying_52 rfl ?_
    refine q_iret dX9_bestDaysByTrying_53 rfl (Or.inl rfl) ?_
    exact Or.inr (Or.inr ⟨n1, n2, _, rfl, by rw [show i = W.t + 2 - j by omega], (q_rd.rf C).row (by omega) (by omega)⟩)
  · refine q_iload_n dX9_bestDaysByTrying_35 rfl ?_
    refine q_aload_n dX9_bestDaysByTrying_36 rfl ?_
    refine q_iload_n dX9_bestDaysByTrying_37 rfl ?_
    refine q_iload_n dX9_bestDaysByTrying_38 rfl ?_
    refine q_vD (kc := 0) (ks := 0) (g_X9_sumOfLoads (h := (h.rowI 1057 g57)) K (V.row (a := 1057) (by decide)) (fun k hk => (congrFun (q_rI _ _ _) _).trans (hg57 k hk)) (a := i) (n := j) (by omega)) wX9_sumOfLoads kX9_231 iX9_sumOfLoads eX9_sumOfLoads rfl rfl (by decide) (K.le (by decide)) (by decide) rfl rfl (Nat.le_of_ble_eq_true rfl) dX9_bestDaysByTrying_39 rfl rfl ?_
    refine q_max kX9_265 dX9_bestDaysByTrying_42 (by decide) (by decide) ?_
    refine q_istore_n (L' := [_, _, _, _]) dX9_bestDaysByTrying_45 rfl (by decide) rfl ?_
    refine q_iincN (n := 1) (L' := [_, _, _, _]) (by decide) dX9_bestDaysByTrying_46 rfl rfl (by decide) rfl ?_
    refine q_goto (tgt := 20) dX9_bestDaysByTrying_49 rfl ?_
    exact q_to (ih20 (i + 1) (by omega) (by omega)) (q_sub_s rfl (q_sub_i rfl (q_sub_i rfl (q_sub_i rfl q_sub_0)))) rfl
theorem g_X9_positionOfBestEffort {Φ : q_Fx} {h : q_Hp} (K : q_Lk Φ h.R h.n) {W : q_W} (V : q_vw h W) (hok : ∀ s, s < 40 → W.okS s) {n : Int32} : q_Ct Φ false yX9_positionOfBestEffort cX9_positionOfBestEffort mX9_positionOfBestEffort [.ref 1, .int n] h (q_t2 (¬ (nI 1 ≤ n ∧ n ≤ nI 240)) "java/lang/IllegalArgumentException" (q_any (fun i => decide (n ≤ W.len (W.σ i))) W.c = false) "java/util/NoSuchElementException" h (fun v h' => v = some (.int (nI (W.bp n.toNatClampNeg))) ∧ ∃ g, h' = h.rowI 1060 g)) := by
  refine q_enter K.st rfl rfl (by decide) rfl (Nat.le_of_ble_eq_true rfl) (L := [_, _, none, none, none, none]) rfl ?_
  have hc40 := V.c40
  refine q_aload_n dX9_positionOfBestEffort_0 rfl ?_
  refine q_iload_n dX9_positionOfBestEffort_1 rfl ?_
  refine q_vT2 (kc := 0) (ks := 0) (g_X9_requireRowOfMinutes (h := h) K V (n := n)) wX9_requireRowOfMinutes kX9_275 iX9_requireRowOfMinutes eX9_requireRowOfMinutes rfl rfl (by decide) (K.le (by decide)) (by decide) rfl rfl (Nat.le_of_ble_eq_true rfl) dX9_positionOfBestEffort_2 rfl rfl rfl (fun c1 => by exact Or.inl ⟨c1, rfl, rfl⟩) (fun c1 c2 => by exact Or.inr (Or.inl ⟨c1, c2, rfl, rfl⟩)) (fun n1 n2 => ?_)
  rintro v h' ⟨rfl, e9⟩
  rw [e9]
  obtain ⟨j, hj1, hj2, rfl⟩ := q_rng n1 (by omega) (by omega)
  try rw [nI_clamp (show j < 2 ^ 31 by omega)]
  refine q_iconst (v := (-1)) dX9_positionOfBestEffort_5 (by decide) ?_
  refine q_istore_n (L' := [_, _, _, _, _, _]) dX9_positionOfBestEffort_6 rfl (by decide) rfl ?_
  refine q_iconst (v := nI 0) dX9_positionOfBestEffort_7 (by decide) ?_
  refine q_istore_n (L' := [_, _, _, _, _, _]) dX9_positionOfBestEffort_8 rfl (by decide) rfl ?_
  refine q_iconst (v := nI 0) dX9_positionOfBestEffort_9 (by decide) ?_
  refine q_istore (L' := [_, _, _, _, _, _]) dX9_positionOfBestEffort_10 rfl (by decide) rfl ?_
  refine q_loop (ι := Nat × (Nat → Int32)) (μ := fun x => W.c - x.1) (P := fun x => x.1 ≤ W.c) (Lf := fun x => [some (.ref 1), some (.int (nI (j))), some (.int (q_mx (fun i => W.ef (W.σ i) j) x.1)), some (.int (nI (q_bp (fun i => W.ef (W.σ i) j) x.1))), some (.int (nI (x.1))), none]) (hf := fun x => (h.rowI 1060 x.2)) (fun x hi12 ih12 => ?_) (0, h.I 1060) (Nat.zero_le _) (q_sub_s rfl (q_sub_i rfl (q_sub_i rfl (q_sub_i rfl (q_sub_i rfl (q_sub_n q_sub_0)))))) (q_rid h 1060).symm
  skip
  have hbp := q_bp_le (fun i => W.ef (W.σ i) j) x.1
  refine q_iload dX9_positionOfBestEffort_12 rfl ?_
  refine q_aload_n dX9_positionOfBestEffort_14 rfl ?_
  refine fRX9_12 (o := some 2) dX9_positionOfBestEffort_15 rfl (by decide) (K.le (by decide)) (K.lk rfl) ?_
  refine q_rfS ?_
  refine fRX9_156 (o := some 9) dX9_positionOfBestEffort_18 rfl (by decide) (K.le (by decide)) (K.lk rfl) ?_
  refine q_rfS ?_
  refine fIX9_160 dX9_positionOfBestEffort_21 rfl (by decide) (K.le (by decide)) ?_
  refine q_tv (show _ = (nI (W.c)) from ((congrFun (q_rIn _ _ (by omega)) _).trans V.c)) ?_
  refine q_icmp_geN (by omega) (by omega) (tgt := 65) dX9_positionOfBestEffort_24 rfl (fun c1 => ?_) (fun c2 => ?_)
  · refine q_iload_n dX9_positionOfBestEffort_65 rfl ?_
    refine q_iret dX9_positionOfBestEffort_66 rfl (Or.inl rfl) ?_
    exact Or.inr (Or.inr ⟨n1, n2, _, rfl, by rw [show x.1 = W.c by omega]; rfl, _, rfl⟩)
  · refine q_aload_n dX9_positionOfBestEffort_27 rfl ?_
    refine q_aload_n dX9_positionOfBestEffort_28 rfl ?_
    refine fRX9_12 (o := some 2) dX9_positionOfBestEffort_29 rfl (by decide) (K.le (by decide)) (K.lk rfl) ?_
    refine q_rfS ?_
    refine fRX9_156 (o := some 9) dX9_positionOfBestEffort_32 rfl (by decide) (K.le (by decide)) (K.lk rfl) ?_
    refine q_rfS ?_
    refine fRX9_205 (o := some 10) dX9_positionOfBestEffort_35 rfl (by decide) (K.le (by decide)) (K.lk rfl) ?_
    refine q_rfS ?_
    refine q_iload dX9_positionOfBestEffort_38 rfl ?_
    refine q_aaldN (len := 40) (o := some (11 + 3 * W.σ (x.1))) (by decide) (by decide) dX9_positionOfBestEffort_40 (by decide) (K.le (by decide)) rfl (by omega) (by decide) (V.sg (by omega)) ?_
    refine q_rfS ?_
    refine q_iload_n dX9_positionOfBestEffort_41 rfl ?_
    refine q_vR (kc := 0) (ks := 0) (g_X9_effortBySums (h := (h.rowI 1060 x.2)) K (V.row (a := 1060) (by decide)) hok (V.s40 (i := (x.1)) (by omega)) (m := j) (by omega) (by omega)) wX9_effortBySums kX9_271 iX9_effortBySums eX9_effortBySums rfl rfl (by decide) (K.le (by decide)) (by decide) rfl rfl (Nat.le_of_ble_eq_true rfl) dX9_positionOfBestEffort_42 rfl rfl ?_
    rintro v h' ⟨rfl, g60, rfl⟩
    refine q_istore (L' := [_, _, _, _, _, _]) dX9_positionOfBestEffort_45 rfl (by decide) rfl ?_
    refine q_iload dX9_positionOfBestEffort_47 rfl ?_
    refine q_iload_n dX9_positionOfBestEffort_49 rfl ?_
    refine q_icmp_le (tgt := 59) dX9_positionOfBestEffort_50 rfl (fun c3 => ?_) (fun c4 => ?_)
    · refine q_iincN (n := 1) (L' := [_, _, _, _, _, _]) (by decide) dX9_positionOfBestEffort_59 rfl rfl (by decide) rfl ?_
      refine q_goto (tgt := 12) dX9_positionOfBestEffort_62 rfl ?_
      exact q_to (ih12 (x.1 + 1, g60) (by show x.1 + 1 ≤ W.c; omega) (by show W.c - (x.1 + 1) < W.c - x.1; omega)) (q_sub_s rfl (q_sub_i rfl (q_sub_i (by simp only [q_mx]; split <;> first | rfl | (exfalso; simp only [Int32.lt_iff_toInt_lt, Int32.le_iff_toInt_le] at *; omega)) (q_sub_i (by simp only [q_bp]; split <;> first | rfl | (exfalso; simp only [Int32.lt_iff_toInt_lt, Int32.le_iff_toInt_le] at *; omega)) (q_sub_i rfl (q_sub_n q_sub_0)))))) (q_rr _ _ _ _)
    · refine q_iload dX9_positionOfBestEffort_53 rfl ?_
      refine q_istore_n (L' := [_, _, _, _, _, _]) dX9_positionOfBestEffort_55 rfl (by decide) rfl ?_
      refine q_iload dX9_positionOfBestEffort_56 rfl ?_
      refine q_istore_n (L' := [_, _, _, _, _, _]) dX9_positionOfBestEffort_58 rfl (by decide) rfl ?_
      refine q_iincN (n := 1) (L' := [_, _, _, _, _, _]) (by decide) dX9_positionOfBestEffort_59 rfl rfl (by decide) rfl ?_
      refine q_goto (tgt := 12) dX9_positionOfBestEffort_62 rfl ?_
      exact q_to (ih12 (x.1 + 1, g60) (by show x.1 + 1 ≤ W.c; omega) (by show W.c - (x.1 + 1) < W.c - x.1; omega)) (q_sub_s rfl (q_sub_i rfl (q_sub_i (by simp only [q_mx]; split <;> first | rfl | (exfalso; simp only [Int32.lt_iff_toInt_lt, Int32.le_iff_toInt_le] at *; omega)) (q_sub_i (by simp only [q_bp]; split <;> first | rfl | (exfalso; simp only [Int32.lt_iff_toInt_lt, Int32.le_iff_toInt_le] at *; omega)) (q_sub_i rfl (q_sub_n q_sub_0)))))) (q_rr _ _ _ _)
theorem q_bp_lt {W : q_W} {n : Int32} {j : Nat} (h : ¬ q_any (fun i => decide (n ≤ W.len (W.σ i))) W.c = false) : W.bp j < W.c := by
  have hc : 0 < W.c := Nat.pos_of_ne_zero fun e => h (by rw [e]; rfl)
  have key : ∀ c, 0 < c → q_bp (fun i => W.ef (W.σ i) j) c < c := by
    intro c
    induction c with
    | zero => intro h; exact absurd h (Nat.lt_irrefl 0)
    | succ c ih =>
      intro _
      unfold q_bp
      split
      · omega
      · by_cases e : c = 0
        · subst e; exact Nat.one_pos
        · have := ih (by omega); omega
  exact key _ hc
theorem g_X9_bestEffort {Φ : q_Fx} {h : q_Hp} (K : q_Lk Φ h.R h.n) {W : q_W} {O : q_O} (C : q_clX h W O) (hok : ∀ s, s < 40 → W.okS s) {n : Int32} : q_Ct Φ false yX9_bestEffort cX9_bestEffort mX9_bestEffort [.ref 1, .int n] h (q_u2 h W O (¬ (nI 1 ≤ n ∧ n ≤ nI 240)) "java/lang/IllegalArgumentException" (q_any (fun i => decide (n ≤ W.len (W.σ i))) W.c = false) "java/util/NoSuchElementException" (fun v h' => v = some (.int (W.ef (W.σ (W.bp n.toNatClampNeg)) n.toNatClampNeg)) ∧ q_rd h h' W O)) := by
  refine q_enter K.st rfl rfl (by decide) rfl (Nat.le_of_ble_eq_true rfl) (L := [_, _, none]) rfl ?_
  have C0 := C
  obtain ⟨k, hT⟩ := C.2
  have hk2 : k ≤ W.t + 1 := hT.2.1
  have V0 := C.1.1
  have V := C.1.1
  have ht9 := V.t9
  have hc40 := V.c40
  refine q_aload_n dX9_bestEffort_0 rfl ?_
  refine q_iload_n dX9_bestEffort_1 rfl ?_
  refine q_vT2 (kc := 0) (ks := 0) (g_X9_positionOfBestEffort (h := h) K V hok (n := n)) wX9_positionOfBestEffort kX9_268 iX9_positionOfBestEffort eX9_positionOfBestEffort rfl rfl (by decide) (K.le (by decide)) (by decide) rfl rfl (Nat.le_of_ble_eq_true rfl) dX9_bestEffort_2 rfl rfl rfl (fun c1 => by exact Or.inl ⟨c1, rfl, q_rd.rf C⟩) (fun c1 c2 => by exact Or.inr (Or.inl ⟨c1, c2, rfl, q_rd.rf C⟩)) (fun n1 n2 => ?_)
  rintro v h' ⟨rfl, g61, rfl⟩
  obtain ⟨j, hj1, hj2, rfl⟩ := q_rng n1 (by omega) (by omega)
  rw [nI_clamp (show j < 2 ^ 31 by omega)]
  have hbp : W.bp j < W.c := q_bp_lt n2
  refine q_istore_n (L' := [_, _, _]) dX9_bestEffort_5 rfl (by decide) rfl ?_
  refine q_aload_n dX9_bestEffort_6 rfl ?_
  refine q_aload_n dX9_bestEffort_7 rfl ?_
  refine fRX9_12 (o := some 2) dX9_bestEffort_8 rfl (by decide) (K.le (by decide)) (K.lk rfl) ?_
  refine q_rfS ?_
  refine fRX9_156 (o := some 9) dX9_bestEffort_11 rfl (by decide) (K.le (by decide)) (K.lk rfl) ?_
  refine q_rfS ?_
  refine fRX9_205 (o := some 10) dX9_bestEffort_14 rfl (by decide) (K.le (by decide)) (K.lk rfl) ?_
  refine q_rfS ?_
  refine q_iload_n dX9_bestEffort_17 rfl ?_
  refine q_aaldN (len := 40) (o := some (11 + 3 * W.σ (W.bp j))) (by decide) (by decide) dX9_bestEffort_18 (by decide) (K.le (by decide)) rfl (by omega) (by decide) (V.sg (by omega)) ?_
  refine q_rfS ?_
  refine q_iload_n dX9_bestEffort_19 rfl ?_
  refine q_vR (kc := 0) (ks := 0) (g_X9_effortBySums (h := (h.rowI 1060 g61)) K (V.row (a := 1060) (by decide)) hok (V.s40 (i := (W.bp j)) (by omega)) (m := j) (by omega) (by omega)) wX9_effortBySums kX9_271 iX9_effortBySums eX9_effortBySums rfl rfl (by decide) (K.le (by decide)) (by decide) rfl rfl (Nat.le_of_ble_eq_true rfl) dX9_bestEffort_20 rfl rfl ?_
  rintro v h' ⟨rfl, g60, rfl⟩
  refine q_iret dX9_bestEffort_23 rfl (Or.inl rfl) ?_
  exact Or.inr (Or.inr ⟨n1, n2, _, rfl, rfl, ((q_rd.rf C).row (by omega) (by omega)).row (by omega) (by omega)⟩)
theorem g_X9_bestEffortSession {Φ : q_Fx} {h : q_Hp} (K : q_Lk Φ h.R h.n) {W : q_W} {O : q_O} (C : q_clX h W O) (hok : ∀ s, s < 40 → W.okS s) {n : Int32} : q_Ct Φ false yX9_bestEffortSession cX9_bestEffortSession mX9_bestEffortSession [.ref 1, .int n] h (q_u2 h W O (¬ (nI 1 ≤ n ∧ n ≤ nI 240)) "java/lang/IllegalArgumentException" (q_any (fun i => decide (n ≤ W.len (W.σ i))) W.c = false) "java/util/NoSuchElementException" (fun v h' => v = some (.int (W.id (W.σ (W.bp n.toNatClampNeg)))) ∧ q_rd h h' W O)) := by
  refine q_enter K.st rfl rfl (by decide) rfl (Nat.le_of_ble_eq_true rfl) (L := [_, _, none]) rfl ?_
  have C0 := C
  obtain ⟨k, hT⟩ := C.2
  have hk2 : k ≤ W.t + 1 := hT.2.1
  have V0 := C.1.1
  have V := C.1.1
  have ht9 := V.t9
  have hc40 := V.c40
  refine q_aload_n dX9_bestEffortSession_0 rfl ?_
  refine q_iload_n dX9_bestEffortSession_1 rfl ?_
  refine q_vT2 (kc := 0) (ks := 0) (g_X9_positionOfBestEffort (h := h) K V hok (n := n)) wX9_positionOfBestEffort kX9_268 iX9_positionOfBestEffort eX9_positionOfBestEffort rfl rfl (by decide) (K.le (by decide)) (by decide) rfl rfl (Nat.le_of_ble_eq_true rfl) dX9_bestEffortSession_2 rfl rfl rfl (fun c1 => by exact Or.inl ⟨c1, rfl, q_rd.rf C⟩) (fun c1 c2 => by exact Or.inr (Or.inl ⟨c1, c2, rfl, q_rd.rf C⟩)) (fun n1 n2 => ?_)
  rintro v h' ⟨rfl, g61, rfl⟩
  obtain ⟨j, hj1, hj2, rfl⟩ := q_rng n1 (by omega) (by omega)
  rw [nI_clamp (show j < 2 ^ 31 by omega)]
  have hbp : W.bp j < W.c := q_bp_lt n2
  refine q_istore_n (L' := [_, _, _]) dX9_bestEffortSession_5 rfl (by decide) rfl ?_
  refine q_aload_n dX9_bestEffortSession_6 rfl ?_
  refine fRX9_12 (o := some 2) dX9_bestEffortSession_7 rfl (by decide) (K.le (by decide)) (K.lk rfl) ?_
  refine q_rfS ?_
  refine fRX9_156 (o := some 9) dX9_bestEffortSession_10 rfl (by decide) (K.le (by decide)) (K.lk rfl) ?_
  refine q_rfS ?_
  refine fRX9_205 (o := some 10) dX9_bestEffortSession_13 rfl (by decide) (K.le (by decide)) (K.lk rfl) ?_
  refine q_rfS ?_
  refine q_iload_n dX9_bestEffortSession_16 rfl ?_
  refine q_aaldN (len := 40) (o := some (11 + 3 * W.σ (W.bp j))) (by decide) (by decide) dX9_bestEffortSession_17 (by decide) (K.le (by decide)) rfl (by omega) (by decide) (V.sg (by omega)) ?_
  refine q_rfS ?_
  refine fIX9_209 dX9_bestEffortSession_18 (q_ts (V.s40 (i := (W.bp j)) (by omega))) (by omega) (K.le (q_bs (V.s40 (i := (W.bp j)) (by omega)))) ?_
  refine q_tv (show _ = (W.id (W.σ (W.bp j))) from ((congrFun (q_rIn _ _ (by omega)) _).trans (V.id (V.s40 (i := (W.bp j)) (by omega))))) ?_
  refine q_iret dX9_bestEffortSession_21 rfl (Or.inl rfl) ?_
  exact Or.inr (Or.inr ⟨n1, n2, _, rfl, rfl, (q_rd.rf C).row (by omega) (by omega)⟩)
theorem g_X9_bestEffortByTrying {Φ : q_Fx} {h : q_Hp} (K : q_Lk Φ h.R h.n) {W : q_W} {O : q_O} (C : q_clX h W O) (hok : ∀ s, s < 40 → W.okS s) {n : Int32} : q_Ct Φ false yX9_bestEffortByTrying cX9_bestEffortByTrying mX9_bestEffortByTrying [.ref 1, .int n] h (q_u2 h W O (¬ (nI 1 ≤ n ∧ n ≤ nI 240)) "java/lang/IllegalArgumentException" (q_any (fun i => decide (n ≤ W.len (W.σ i))) W.c = false) "java/util/NoSuchElementException" (fun v h' => v = some (.int (q_mz (fun i => W.et (W.σ i) n.toNatClampNeg) W.c)) ∧ q_rd h h' W O)) := by
  refine q_enter K.st rfl rfl (by decide) rfl (Nat.le_of_ble_eq_true rfl) (L := [_, _, none, none]) rfl ?_
  have C0 := C
  obtain ⟨k, hT⟩ := C.2
  have hk2 : k ≤ W.t + 1 := hT.2.1
  have V0 := C.1.1
  have V := C.1.1
  have ht9 := V.t9
  have hc40 := V.c40
  refine q_aload_n dX9_bestEffortByTrying_0 rfl ?_
  refine q_iload_n dX9_bestEffortByTrying_1 rfl ?_
  refine q_vT2 (kc := 0) (ks := 0) (g_X9_requireRowOfMinutes (h := h) K V (n := n)) wX9_requireRowOfMinutes kX9_275 iX9_requireRowOfMinutes eX9_requireRowOfMinutes rfl rfl (by decide) (K.le (by decide)) (by decide) rfl rfl (Nat.le_of_ble_eq_true rfl) dX9_bestEffortByTrying_2 rfl rfl rfl (fun c1 => by exact Or.inl ⟨c1, rfl, q_rd.rf C⟩) (fun c1 c2 => by exact Or.inr (Or.inl ⟨c1, c2, rfl, q_rd.rf C⟩)) (fun n1 n2 => ?_)
  rintro v h' ⟨rfl, e9⟩
  rw [e9]
  obtain ⟨j, hj1, hj2, rfl⟩ := q_rng n1 (by omega) (by omega)
  try rw [nI_clamp (show j < 2 ^ 31 by omega)]
  refine q_iconst (v := nI 0) dX9_bestEffortByTrying_5 (by decide) ?_
  refine q_istore_n (L' := [_, _, _, _]) dX9_bestEffortByTrying_6 rfl (by decide) rfl ?_
  refine q_iconst (v := nI 0) dX9_bestEffortByTrying_7 (by decide) ?_
  refine q_istore_n (L' := [_, _, _, _]) dX9_bestEffortByTrying_8 rfl (by decide) rfl ?_
  refine q_loop (ι := Nat × (Nat → Int32)) (μ := fun x => W.c - x.1) (P := fun x => x.1 ≤ W.c) (Lf := fun x => [some (.ref 1), some (.int (nI (j))), some (.int (q_mz (fun i => W.et (W.σ i) j) x.1)), some (.int (nI (x.1)))]) (hf := fun x => (h.rowI 1060 x.2)) (fun x hi9 ih9 => ?_) (0, h.I 1060) (Nat.zero_le _) (q_sub_s rfl (q_sub_i rfl (q_sub_i rfl (q_sub_i rfl q_sub_0)))) (q_rid h 1060).symm
  skip
  refine q_iload_n dX9_bestEffortByTrying_9 rfl ?_
  refine q_aload_n dX9_bestEffortByTrying_10 rfl ?_
  refine fRX9_12 (o := some 2) dX9_bestEffortByTrying_11 rfl (by decide) (K.le (by decide)) (K.lk rfl) ?_
  refine q_rfS ?_
  refine fRX9_156 (o := some 9) dX9_bestEffortByTrying_14 rfl (by decide) (K.le (by decide)) (K.lk rfl) ?_
  refine q_rfS ?_
  refine fIX9_160 dX9_bestEffortByTrying_17 rfl (by decide) (K.le (by decide)) ?_
  refine q_tv (show _ = (nI (W.c)) from ((congrFun (q_rIn _ _ (by omega)) _).trans V.c)) ?_
  refine q_icmp_geN (by omega) (by omega) (tgt := 51) dX9_bestEffortByTrying_20 rfl (fun c1 => ?_) (fun c2 => ?_)
  · refine q_iload_n dX9_bestEffortByTrying_51 rfl ?_
    refine q_iret dX9_bestEffortByTrying_52 rfl (Or.inl rfl) ?_
    exact Or.inr (Or.inr ⟨n1, n2, _, rfl, by rw [show x.1 = W.c by omega], (q_rd.rf C).row (by omega) (by omega)⟩)
  · refine q_iload_n dX9_bestEffortByTrying_23 rfl ?_
    refine q_aload_n dX9_bestEffortByTrying_24 rfl ?_
    refine q_aload_n dX9_bestEffortByTrying_25 rfl ?_
    refine fRX9_12 (o := some 2) dX9_bestEffortByTrying_26 rfl (by decide) (K.le (by decide)) (K.lk rfl) ?_
    refine q_rfS ?_
    refine fRX9_156 (o := some 9) dX9_bestEffortByTrying_29 rfl (by decide) (K.le (by decide)) (K.lk rfl) ?_
    refine q_rfS ?_
    refine fRX9_205 (o := some 10) dX9_bestEffortByTrying_32 rfl (by decide) (K.le (by decide)) (K.lk rfl) ?_
    refine q_rfS ?_
    refine q_iload_n dX9_bestEffortByTrying_35 rfl ?_
    refine q_aaldN (len := 40) (o := some (11 + 3 * W.σ (x.1))) (by decide) (by decide) dX9_bestEffortByTrying_36 (by decide) (K.le (by decide)) rfl (by omega) (by decide) (V.sg (by omega)) ?_
    refine q_rfS ?_
    refine q_iload_n dX9_bestEffortByTrying_37 rfl ?_
    refine q_vR (kc := 0) (ks := 0) (g_X9_effortByTrying (h := (h.rowI 1060 x.2)) K (V.row (a := 1060) (by decide)) hok (V.s40 (i := (x.1)) (by omega)) (m := j) (by omega) (by omega)) wX9_effortByTrying kX9_278 iX9_effortByTrying eX9_effortByTrying rfl rfl (by decide) (K.le (by decide)) (by decide) rfl rfl (Nat.le_of_ble_eq_true rfl) dX9_bestEffortByTrying_38 rfl rfl ?_
    rintro v h' ⟨rfl, g60, rfl⟩
    refine q_max kX9_265 dX9_bestEffortByTrying_41 (by decide) (by decide) ?_
    refine q_istore_n (L' := [_, _, _, _]) dX9_bestEffortByTrying_44 rfl (by decide) rfl ?_
    refine q_iincN (n := 1) (L' := [_, _, _, _]) (by decide) dX9_bestEffortByTrying_45 rfl rfl (by decide) rfl ?_
    refine q_goto (tgt := 9) dX9_bestEffortByTrying_48 rfl ?_
    exact q_to (ih9 (x.1 + 1, g60) (by show x.1 + 1 ≤ W.c; omega) (by show W.c - (x.1 + 1) < W.c - x.1; omega)) (q_sub_s rfl (q_sub_i rfl (q_sub_i rfl (q_sub_i rfl q_sub_0)))) (q_rr _ _ _ _)
theorem g_X9_dueEntry {Φ : q_Fx} {h : q_Hp} (K : q_Lk Φ h.R h.n) {W : q_W} {O : q_O} (C : q_clX h W O) : q_Ct Φ false yX9_dueEntry cX9_dueEntry mX9_dueEntry [.ref 1] h (q_u1 h W O (W.pc ≤ W.due) "java/util/NoSuchElementException" (fun v h' => v = some (.int (nI W.due)) ∧ q_rd h h' W O)) := by
  refine q_enter K.st rfl rfl (by decide) rfl (Nat.le_of_ble_eq_true rfl) (L := [_]) rfl ?_
  have C0 := C
  obtain ⟨k, hT⟩ := C.2
  have hk2 : k ≤ W.t + 1 := hT.2.1
  have V0 := C.1.1
  have V := C.1.1
  have ht9 := V.t9
  have hle : W.due ≤ W.pc := (W.fo_le _).1
  have hp28 := V.pc28
  have hpe := V.pe1
  refine q_aload_n dX9_dueEntry_0 rfl ?_
  refine q_vG (kc := 0) (ks := 0) (g_X9_existingDueEntry (h := h) K V) wX9_existingDueEntry kX9_308 iX9_existingDueEntry eX9_existingDueEntry rfl rfl (by decide) (K.le (by decide)) (by decide) rfl rfl (Nat.le_of_ble_eq_true rfl) dX9_dueEntry_1 rfl rfl rfl ?_ ?_
  · rintro E h' ⟨g57, g56, rfl, hq | hq⟩
    · obtain ⟨hdue, hq⟩ := hq
      cases hq
      exact Or.inl ⟨hdue, rfl, ((q_rd.rf C).row (by omega) (by omega)).row (by omega) (by omega)⟩
    · exact nomatch hq.2
  rintro v h' ⟨g57, g56, rfl, hq | hq⟩
  · exact nomatch hq.2
  obtain ⟨hdue, hq⟩ := hq
  cases hq
  refine q_iret dX9_dueEntry_4 rfl (Or.inl rfl) ?_
  exact Or.inr ⟨(by omega), _, rfl, rfl, ((q_rd.rf C).row (by omega) (by omega)).row (by omega) (by omega)⟩
theorem g_X9_planEnd {Φ : q_Fx} {h : q_Hp} (K : q_Lk Φ h.R h.n) {W : q_W} {O : q_O} (C : q_clX h W O) : q_Ct Φ false yX9_planEnd cX9_planEnd mX9_planEnd [.ref 1] h (q_u1 h W O (W.pc ≤ W.due) "java/util/NoSuchElementException" (fun v h' => v = some (.int (nI W.t + ((nI W.pc - nI 1) - nI W.due))) ∧ q_rd h h' W O)) := by
  refine q_enter K.st rfl rfl (by decide) rfl (Nat.le_of_ble_eq_true rfl) (L := [_, none]) rfl ?_
  have C0 := C
  obtain ⟨k, hT⟩ := C.2
  have hk2 : k ≤ W.t + 1 := hT.2.1
  have V0 := C.1.1
  have V := C.1.1
  have ht9 := V.t9
  have hle : W.due ≤ W.pc := (W.fo_le _).1
  have hp28 := V.pc28
  have hpe := V.pe1
  refine q_aload_n dX9_planEnd_0 rfl ?_
  refine fRX9_12 (o := some 2) dX9_planEnd_1 rfl (by decide) (K.le (by decide)) (K.lk rfl) ?_
  refine q_rfS ?_
  refine fRX9_281 (o := some 131) dX9_planEnd_4 rfl (by decide) (K.le (by decide)) (K.lk rfl) ?_
  refine q_rfS ?_
  refine fIX9_285 dX9_planEnd_7 rfl (by decide) (K.le (by decide)) ?_
  refine q_tv (show _ = (nI (W.pc)) from V.pc) ?_
  refine q_iconst (v := nI 1) dX9_planEnd_10 (by decide) ?_
  refine q_isub dX9_planEnd_11 ?_
  refine q_aload_n dX9_planEnd_12 rfl ?_
  refine q_vG (kc := 0) (ks := 0) (g_X9_existingDueEntry (h := h) K V) wX9_existingDueEntry kX9_308 iX9_existingDueEntry eX9_existingDueEntry rfl rfl (by decide) (K.le (by decide)) (by decide) rfl rfl (Nat.le_of_ble_eq_true rfl) dX9_planEnd_13 rfl rfl rfl ?_ ?_
  · rintro E h' ⟨g57, g56, rfl, hq | hq⟩
    · obtain ⟨hdue, hq⟩ := hq
      cases hq
      exact Or.inl ⟨hdue, rfl, ((q_rd.rf C).row (by omega) (by omega)).row (by omega) (by omega)⟩
    · exact nomatch hq.2
  rintro v h' ⟨g57, g56, rfl, hq | hq⟩
  · exact nomatch hq.2
  obtain ⟨hdue, hq⟩ := hq
  cases hq
  refine q_isub dX9_planEnd_16 ?_
  refine q_istore_n (L' := [_, _]) dX9_planEnd_17 rfl (by decide) rfl ?_
  refine q_aload_n dX9_planEnd_18 rfl ?_
  refine fRX9_12 (o := some 2) dX9_planEnd_19 rfl (by decide) (K.le (by decide)) (K.lk rfl) ?_
  refine q_rfS ?_
  refine fIX9_69 dX9_planEnd_22 rfl (by decide) (K.le (by decide)) ?_
  refine q_tv (show _ = (nI (W.t)) from ((congrFun (q_rIn _ _ (by omega)) _).trans ((congrFun (q_rIn _ _ (by omega)) _).trans V.t))) ?_
  refine q_iload_n dX9_planEnd_25 rfl ?_
  refine q_iadd dX9_planEnd_26 ?_
  refine q_iret dX9_planEnd_27 rfl (Or.inl rfl) ?_
  exact Or.inr ⟨(by omega), _, rfl, rfl, ((q_rd.rf C).row (by omega) (by omega)).row (by omega) (by omega)⟩
theorem g_X9_missedDays {Φ : q_Fx} {h : q_Hp} (K : q_Lk Φ h.R h.n) {W : q_W} {O : q_O} (C : q_clX h W O) : q_Ct Φ false yX9_missedDays cX9_missedDays mX9_missedDays [.ref 1] h (q_ex (fun v h' => v = some (.int (nI W.mis)) ∧ q_rd h h' W O)) := by
  refine q_enter K.st rfl rfl (by decide) rfl (Nat.le_of_ble_eq_true rfl) (L := [_]) rfl ?_
  have C0 := C
  obtain ⟨k, hT⟩ := C.2
  have hk2 : k ≤ W.t + 1 := hT.2.1
  have V0 := C.1.1
  have V := C.1.1
  have ht9 := V.t9
  have hle : W.due ≤ W.pc := (W.fo_le _).1
  have hp28 := V.pc28
  have hpe := V.pe1
  refine q_aload_n dX9_missedDays_0 rfl ?_
  refine q_vR (kc := 0) (ks := 0) (g_X9_followPlan (h := h) K V) wX9_followPlan kX9_311 iX9_followPlan eX9_followPlan rfl rfl (by decide) (K.le (by decide)) (by decide) rfl rfl (Nat.le_of_ble_eq_true rfl) dX9_missedDays_1 rfl rfl ?_
  rintro v h' ⟨rfl, g57, g56, rfl, hg0, hg1, hg2⟩
  refine q_aload_n dX9_missedDays_4 rfl ?_
  refine fRX9_48 (o := some 1056) dX9_missedDays_5 rfl (by decide) (K.le (by decide)) (K.lk rfl) ?_
  refine q_rfS ?_
  refine fIX9_314 dX9_missedDays_8 rfl (by decide) (K.le (by decide)) ?_
  refine q_tv (show _ = (nI (W.mis)) from ((congrFun (q_rI _ _ _) _).trans hg1)) ?_
  refine q_iret dX9_missedDays_11 rfl (Or.inl rfl) ?_
  exact ⟨_, rfl, rfl, ((q_rd.rf C).row (by omega) (by omega)).row (by omega) (by omega)⟩
theorem g_X9_droppedEntries {Φ : q_Fx} {h : q_Hp} (K : q_Lk Φ h.R h.n) {W : q_W} {O : q_O} (C : q_clX h W O) : q_Ct Φ false yX9_droppedEntries cX9_droppedEntries mX9_droppedEntries [.ref 1] h (q_ex (fun v h' => v = some (.int (nI W.drp)) ∧ q_rd h h' W O)) := by
  refine q_enter K.st rfl rfl (by decide) rfl (Nat.le_of_ble_eq_true rfl) (L := [_]) rfl ?_
  have C0 := C
  obtain ⟨k, hT⟩ := C.2
  have hk2 : k ≤ W.t + 1 := hT.2.1
  have V0 := C.1.1
  have V := C.1.1
  have ht9 := V.t9
  have hle : W.due ≤ W.pc := (W.fo_le _).1
  have hp28 := V.pc28
  have hpe := V.pe1
  refine q_aload_n dX9_droppedEntries_0 rfl ?_
  refine q_vR (kc := 0) (ks := 0) (g_X9_followPlan (h := h) K V) wX9_followPlan kX9_311 iX9_followPlan eX9_followPlan rfl rfl (by decide) (K.le (by decide)) (by decide) rfl rfl (Nat.le_of_ble_eq_true rfl) dX9_droppedEntries_1 rfl rfl ?_
  rintro v h' ⟨rfl, g57, g56, rfl, hg0, hg1, hg2⟩
  refine q_aload_n dX9_droppedEntries_4 rfl ?_
  refine fRX9_48 (o := some 1056) dX9_droppedEntries_5 rfl (by decide) (K.le (by decide)) (K.lk rfl) ?_
  refine q_rfS ?_
  refine fIX9_317 dX9_droppedEntries_8 rfl (by decide) (K.le (by decide)) ?_
  refine q_tv (show _ = (nI (W.drp)) from ((congrFun (q_rI _ _ _) _).trans hg2)) ?_
  refine q_iret dX9_droppedEntries_11 rfl (Or.inl rfl) ?_
  exact ⟨_, rfl, rfl, ((q_rd.rf C).row (by omega) (by omega)).row (by omega) (by omega)⟩
theorem g_X9_isPlanOver {Φ : q_Fx} {h : q_Hp} (K : q_Lk Φ h.R h.n) {W : q_W} {O : q_O} (C : q_clX h W O) : q_Ct Φ false yX9_isPlanOver cX9_isPlanOver mX9_isPlanOver [.ref 1] h (q_ex (fun v h' => v = some (.int (q_bl (decide (W.pe = 1 ∧ W.pc ≤ W.due)))) ∧ q_rd h h' W O)) := by
  refine q_enter K.st rfl rfl (by decide) rfl (Nat.le_of_ble_eq_true rfl) (L := [_]) rfl ?_
  have C0 := C
  obtain ⟨k, hT⟩ := C.2
  have hk2 : k ≤ W.t + 1 := hT.2.1
  have V0 := C.1.1
  have V := C.1.1
  have ht9 := V.t9
  have hle : W.due ≤ W.pc := (W.fo_le _).1
  have hp28 := V.pc28
  have hpe := V.pe1
  refine q_aload_n dX9_isPlanOver_0 rfl ?_
  refine q_vR (kc := 0) (ks := 0) (g_X9_followPlan (h := h) K V) wX9_followPlan kX9_311 iX9_followPlan eX9_followPlan rfl rfl (by decide) (K.le (by decide)) (by decide) rfl rfl (Nat.le_of_ble_eq_true rfl) dX9_isPlanOver_1 rfl rfl ?_
  rintro v h' ⟨rfl, g57, g56, rfl, hg0, hg1, hg2⟩
  refine q_aload_n dX9_isPlanOver_4 rfl ?_
  refine fRX9_12 (o := some 2) dX9_isPlanOver_5 rfl (by decide) (K.le (by decide)) (K.lk rfl) ?_
  refine q_rfS ?_
  refine fRX9_281 (o := some 131) dX9_isPlanOver_8 rfl (by decide) (K.le (by decide)) (K.lk rfl) ?_
  refine q_rfS ?_
  refine fIX9_293 dX9_isPlanOver_11 rfl (by decide) (K.le (by decide)) ?_
  refine q_tv (show _ = (nI (W.pe)) from ((congrFun (q_rIn _ _ (by omega)) _).trans ((congrFun (q_rIn _ _ (by omega)) _).trans V.pe))) ?_
  refine q_if_eqN (by omega) (tgt := 41) dX9_isPlanOver_14 rfl (fun c1 => ?_) (fun c2 => ?_)
  · refine q_iconst (v := nI 0) dX9_isPlanOver_41 (by decide) ?_
    refine q_zret (ty := .boolean) dX9_isPlanOver_42 rfl rfl (Or.inl rfl) ?_
    exact ⟨_, rfl, by simp only [q_bl]; split <;> first | rfl | (exfalso; simp only [decide_eq_true_eq] at *; omega), ((q_rd.rf C).row (by omega) (by omega)).row (by omega) (by omega)⟩
  · refine q_aload_n dX9_isPlanOver_17 rfl ?_
    refine fRX9_48 (o := some 1056) dX9_isPlanOver_18 rfl (by decide) (K.le (by decide)) (K.lk rfl) ?_
    refine q_rfS ?_
    refine fIX9_320 dX9_isPlanOver_21 rfl (by decide) (K.le (by decide)) ?_
    refine q_tv (show _ = (nI (W.due)) from ((congrFun (q_rI _ _ _) _).trans hg0)) ?_
    refine q_aload_n dX9_isPlanOver_24 rfl ?_
    refine fRX9_12 (o := some 2) dX9_isPlanOver_25 rfl (by decide) (K.le (by decide)) (K.lk rfl) ?_
    refine q_rfS ?_
    refine fRX9_281 (o := some 131) dX9_isPlanOver_28 rfl (by decide) (K.le (by decide)) (K.lk rfl) ?_
    refine q_rfS ?_
    refine fIX9_285 dX9_isPlanOver_31 rfl (by decide) (K.le (by decide)) ?_
    refine q_tv (show _ = (nI (W.pc)) from ((congrFun (q_rIn _ _ (by omega)) _).trans ((congrFun (q_rIn _ _ (by omega)) _).trans V.pc))) ?_
    refine q_icmp_ltN (by omega) (by omega) (tgt := 41) dX9_isPlanOver_34 rfl (fun c3 => ?_) (fun c4 => ?_)
    · refine q_iconst (v := nI 0) dX9_isPlanOver_41 (by decide) ?_
      refine q_zret (ty := .boolean) dX9_isPlanOver_42 rfl rfl (Or.inl rfl) ?_
      exact ⟨_, rfl, by simp only [q_bl]; split <;> first | rfl | (exfalso; simp only [decide_eq_true_eq] at *; omega), ((q_rd.rf C).row (by omega) (by omega)).row (by omega) (by omega)⟩
    · refine q_iconst (v := nI 1) dX9_isPlanOver_37 (by decide) ?_
      refine q_goto (tgt := 42) dX9_isPlanOver_38 rfl ?_
      refine q_zret (ty := .boolean) dX9_isPlanOver_42 rfl rfl (Or.inl rfl) ?_
      exact ⟨_, rfl, by simp only [q_bl]; split <;> first | rfl | (exfalso; simp only [decide_eq_true_eq] at *; omega), ((q_rd.rf C).row (by omega) (by omega)).row (by omega) (by omega)⟩
theorem g_X9_writeWeek {Φ : q_Fx} {h : q_Hp} (K : q_Lk Φ h.R h.n) {W : q_W} {O : q_O} (C : q_clX h W O) {d : Int32} : q_Ct Φ false yX9_writeWeek cX9_writeWeek mX9_writeWeek [.ref 1, .int d] h (q_u1 h W O (¬ (nI 0 ≤ d ∧ d ≤ nI W.t)) "java/lang/IllegalArgumentException" (fun v h' => v = some (.int (nI 13)) ∧ ∃ ln, (∀ k, k < 13 → ln k = if k % 2 = 1 then nI 32 else nI (W.sgn (d.toNatClampNeg + k / 2))) ∧ q_mu h h' W (O.wrt ln) 200)) := by
  refine q_enter K.st rfl rfl (by decide) rfl (Nat.le_of_ble_eq_true rfl) (L := [_, _, none]) rfl ?_
  have C0 := C
  obtain ⟨k, hT⟩ := C.2
  have hk2 : k ≤ W.t + 1 := hT.2.1
  have V0 := C.1.1
  have V := C.1.1
  have ht9 := V.t9
  refine q_aload_n dX9_writeWeek_0 rfl ?_
  refine q_iload_n dX9_writeWeek_1 rfl ?_
  refine q_vT (kc := 0) (ks := 0) (g_X9_requireDayUpToToday (h := h) K V (d := d)) wX9_requireDayUpToToday kX9_83 iX9_requireDayUpToToday eX9_requireDayUpToToday rfl rfl (by decide) (K.le (by decide)) (by decide) rfl rfl (Nat.le_of_ble_eq_true rfl) dX9_writeWeek_2 rfl rfl rfl (fun c1 => by exact Or.inl ⟨c1, rfl, q_rd.rf C⟩) (fun c2 => ?_)
  have n2 := c2
  obtain ⟨j, hj1, hj2, rfl⟩ := q_rng n2 (by omega) (by omega)
  try rw [nI_clamp (show j < 2 ^ 31 by omega)]
  refine q_iconst (v := nI 0) dX9_writeWeek_5 (by decide) ?_
  refine q_istore_n (L' := [_, _, _]) dX9_writeWeek_6 rfl (by decide) rfl ?_
  refine q_loop (ι := Nat × (Nat → Int32)) (μ := fun x => 7 - x.1) (P := fun x => x.1 ≤ 7) (Lf := fun x => [some (.ref 1), some (.int (nI (j))), some (.int (nI (x.1)))]) (hf := fun x => ((h.rowI 1052 (q_wl W j (h.I 1052) x.1)).rowI 1059 x.2)) (fun x hi7 ih7 => ?_) (0, h.I 1059) (Nat.zero_le _) (q_sub_s rfl (q_sub_i rfl (q_sub_i rfl q_sub_0))) (by rw [q_wl_0, show h.I 1059 = (h.rowI 1052 (h.I 1052)).I 1059 from rfl, q_rid, q_rid])
  skip
  refine q_iload_n dX9_writeWeek_7 rfl ?_
  refine q_bipush (v := nI 7) dX9_writeWeek_8 (by decide) ?_
  refine q_icmp_geN (by omega) (by omega) (tgt := 50) dX9_writeWeek_10 rfl (fun c3 => ?_) (fun c4 => ?_)
  · refine q_aload_n dX9_writeWeek_50 rfl ?_
    refine q_bipush (v := nI 13) dX9_writeWeek_51 (by decide) ?_
    refine pIX9_34 dX9_writeWeek_53 rfl (by decide) (K.le (by decide)) ?_
    refine q_aload_n dX9_writeWeek_56 rfl ?_
    refine fIX9_34 dX9_writeWeek_57 rfl (by decide) (K.le (by decide)) ?_
    refine q_tv (show _ = (nI (13)) from ((congrFun (q_sI _ _ _ _) _).trans (va_us _ _ _))) ?_
    refine q_iret dX9_writeWeek_60 rfl (Or.inl rfl) ?_
    have e : x.1 = 7 := by omega
    exact Or.inr ⟨n2, _, rfl, rfl, _, fun k hk => (by show (if k < 2 * x.1 - 1 then _ else _) = _; rw [if_pos (by omega)]), q_wrote C.1 _ _⟩
  · refine q_iload_n dX9_writeWeek_13 rfl ?_
    refine q_if_leN (by omega) (tgt := 29) dX9_writeWeek_14 rfl (fun c5 => ?_) (fun c6 => ?_)
    · refine q_aload_n dX9_writeWeek_29 rfl ?_
      refine fRX9_30 (o := some 1052) dX9_writeWeek_30 rfl (by decide) (K.le (by decide)) (K.lk rfl) ?_
      refine q_rfS ?_
      refine q_iconst (v := nI 2) dX9_writeWeek_33 (by decide) ?_
      refine q_iload_n dX9_writeWeek_34 rfl ?_
      refine q_imulN dX9_writeWeek_35 ?_
      refine q_aload_n dX9_writeWeek_36 rfl ?_
      refine q_iload_n dX9_writeWeek_37 rfl ?_
      refine q_iload_n dX9_writeWeek_38 rfl ?_
      refine q_iaddN dX9_writeWeek_39 ?_
      refine q_vR (kc := 0) (ks := 0) (g_X9_signOfDay (h := ((h.rowI 1052 (q_wl W j (h.I 1052) x.1)).rowI 1059 x.2)) K ((V.row (a := 1052) (by decide)).row (a := 1059) (by decide)) (d := (j) + (x.1)) (by omega)) wX9_signOfDay kX9_323 iX9_signOfDay eX9_signOfDay rfl rfl (by decide) (K.le (by decide)) (by decide) rfl rfl (Nat.le_of_ble_eq_true rfl) dX9_writeWeek_40 rfl rfl ?_
      rintro v h' ⟨rfl, g59, rfl⟩
      refine q_castN (len := 13) rfl dX9_writeWeek_43 (by decide) (K.le (by decide)) rfl (by omega) (by decide) (q_char (q_sgn_lt _ _)) ?_
      refine q_iincN (n := 1) (L' := [_, _, _]) (by decide) dX9_writeWeek_44 rfl rfl (by decide) rfl ?_
      refine q_goto (tgt := 7) dX9_writeWeek_47 rfl ?_
      exact q_to (ih7 (x.1 + 1, g59) (by show x.1 + 1 ≤ 7; omega) (by show 7 - (x.1 + 1) < 7 - x.1; omega)) (q_sub_s rfl (q_sub_i rfl (q_sub_i rfl q_sub_0))) (by first | (rw [q_rset2 _ _ _ _ _ (by decide), q_rr, q_rset2 _ _ _ _ _ (by decide), q_wl_b _ _ _ (by omega)]) | (rw [q_rr, q_rset2 _ _ _ _ _ (by decide), q_wl_a _ _ _ (by omega)]))
    · refine q_aload_n dX9_writeWeek_17 rfl ?_
      refine fRX9_30 (o := some 1052) dX9_writeWeek_18 rfl (by decide) (K.le (by decide)) (K.lk rfl) ?_
      refine q_rfS ?_
      refine q_iconst (v := nI 2) dX9_writeWeek_21 (by decide) ?_
      refine q_iload_n dX9_writeWeek_22 rfl ?_
      refine q_imulN dX9_writeWeek_23 ?_
      refine q_iconst (v := nI 1) dX9_writeWeek_24 (by decide) ?_
      refine q_isubN (by omega) dX9_writeWeek_25 ?_
      refine q_bipush (v := nI 32) dX9_writeWeek_26 (by decide) ?_
      refine q_castN (len := 13) rfl dX9_writeWeek_28 (by decide) (K.le (by decide)) rfl (by omega) (by decide) (by decide) ?_
      refine q_aload_n dX9_writeWeek_29 rfl ?_
      refine fRX9_30 (o := some 1052) dX9_writeWeek_30 rfl (by decide) (K.le (by decide)) (K.lk rfl) ?_
      refine q_rfS ?_
      refine q_iconst (v := nI 2) dX9_writeWeek_33 (by decide) ?_
      refine q_iload_n dX9_writeWeek_34 rfl ?_
      refine q_imulN dX9_writeWeek_35 ?_
      refine q_aload_n dX9_writeWeek_36 rfl ?_
      refine q_iload_n dX9_writeWeek_37 rfl ?_
      refine q_iload_n dX9_writeWeek_38 rfl ?_
      refine q_iaddN dX9_writeWeek_39 ?_
      refine q_vR (kc := 0) (ks := 0) (g_X9_signOfDay (h := (((h.rowI 1052 (q_wl W j (h.I 1052) x.1)).rowI 1059 x.2).setI 1052 (((2) * (x.1)) - (1)) (nI (32)))) K (((V.row (a := 1052) (by decide)).row (a := 1059) (by decide)).set (a := 1052) (by decide)) (d := (j) + (x.1)) (by omega)) wX9_signOfDay kX9_323 iX9_signOfDay eX9_signOfDay rfl rfl (by decide) (K.le (by decide)) (by decide) rfl rfl (Nat.le_of_ble_eq_true rfl) dX9_writeWeek_40 rfl rfl ?_
      rintro v h' ⟨rfl, g59, rfl⟩
      refine q_castN (len := 13) rfl dX9_writeWeek_43 (by decide) (K.le (by decide)) rfl (by omega) (by decide) (q_char (q_sgn_lt _ _)) ?_
      refine q_iincN (n := 1) (L' := [_, _, _]) (by decide) dX9_writeWeek_44 rfl rfl (by decide) rfl ?_
      refine q_goto (tgt := 7) dX9_writeWeek_47 rfl ?_
      exact q_to (ih7 (x.1 + 1, g59) (by show x.1 + 1 ≤ 7; omega) (by show 7 - (x.1 + 1) < 7 - x.1; omega)) (q_sub_s rfl (q_sub_i rfl (q_sub_i rfl q_sub_0))) (by first | (rw [q_rset2 _ _ _ _ _ (by decide), q_rr, q_rset2 _ _ _ _ _ (by decide), q_wl_b _ _ _ (by omega)]) | (rw [q_rr, q_rset2 _ _ _ _ _ (by decide), q_wl_a _ _ _ (by omega)]))
