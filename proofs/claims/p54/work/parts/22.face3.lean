/-! THE CLASS'S FACE: SUMS, TREND, RECORDS, PLAN, LINE -/
theorem q_n32 {r : UInt32} (h : FP.Core.fIsNaN r = false) : vf_n32 r := by
  unfold vf_n32
  rw [UInt32.le_iff_toNat_le, UInt32.toNat_and]
  have h1 : (0x7fffffff : UInt32).toNat = 2 ^ 31 - 1 := by decide
  have h2 : (0x7f800000 : UInt32).toNat = 2139095040 := by decide
  rw [h1, h2, Nat.and_two_pow_sub_one_eq_mod]
  refine Nat.not_lt.mp fun c => ?_
  rw [(FP.Core.isNaN_bits32 r).mpr c] at h
  cases h
theorem q_n64 {r : UInt64} (h : FP.Core.dIsNaN r = false) : vf_n64 r := by
  unfold vf_n64
  rw [UInt64.le_iff_toNat_le, UInt64.toNat_and]
  have h1 : (0x7fffffffffffffff : UInt64).toNat = 2 ^ 63 - 1 := by decide
  have h2 : (0x7ff0000000000000 : UInt64).toNat = 9218868437227405312 := by decide
  rw [h1, h2, Nat.and_two_pow_sub_one_eq_mod]
  refine Nat.not_lt.mp fun c => ?_
  rw [(FP.Core.isNaN_bits r).mpr c] at h
  cases h
theorem q_fd0 {x y : Int32} (h : ¬ y = 0) : FP.Core.fIsNaN (FP.fdiv (FP.i2f x) (FP.i2f y)) = false := by
  have hx : FP.Core.fIsNaN (FP.i2f x) = false := by
    have h1 := (FP.Core.fin_bits32 _).mp (FP.Core.i2f_fin x)
    cases e : FP.Core.fIsNaN (FP.i2f x) with
    | false => rfl
    | true =>
      have := (FP.Core.isNaN_bits32 _).mp e
      have h2 : (FP.i2f x).toNat % 2 ^ 31 < 2139095040 := h1
      omega
  exact FP.Core.fdiv_out hx (FP.Core.i2f_fin y) fun z => FP.Core.i2f_ne_zero h ((FP.Core.zero_bits232 _).mp z)
theorem q_fdn {x y : Int32} (h : ¬ y = 0) : vf_n32 (FP.fdiv (FP.i2f x) (FP.i2f y)) := q_n32 (q_fd0 h)
theorem q_dd0 {x y : Int32} (h : ¬ y = 0) : FP.Core.dIsNaN (FP.ddiv (FP.i2d x) (FP.i2d y)) = false := by
  have hx : FP.Core.dIsNaN (FP.i2d x) = false := by
    have h1 := (FP.Core.fin_bits _).mp (FP.Core.i2d_fin x)
    cases e : FP.Core.dIsNaN (FP.i2d x) with
    | false => rfl
    | true =>
      have := (FP.Core.isNaN_bits _).mp e
      have h2 : (FP.i2d x).toNat % 2 ^ 63 < 9218868437227405312 := h1
      omega
  exact FP.Core.ddiv_out hx (FP.Core.i2d_fin y) fun z => FP.Core.i2d_ne_zero h ((FP.Core.zero_bits2 _).mp z)
theorem q_ddn {x y : Int32} (h : ¬ y = 0) : vf_n64 (FP.ddiv (FP.i2d x) (FP.i2d y)) := q_n64 (q_dd0 h)
/-- the zones' minutes of the first n sessions in order -/
def q_W.za (W : q_W) (g : Nat → Int32) : Nat → Nat → Int32
  | 0 => g
  | n + 1 => q_az (W.za g n) (W.z (W.σ n)) (W.mn (W.σ n)) (W.pn (W.σ n))
theorem q_W.za_in (W : q_W) {g g' : Nat → Int32} (h : ∀ k, k < 6 → g k = g' k) (n k : Nat) (hk : k < 6) : W.za g n k = W.za g' n k := by
  induction n generalizing k with
  | zero => exact h k hk
  | succ n ih => exact q_az_in (fun k hk => ih k hk) _ (fun p => W.z_lt _ p) _ _ k hk
def q_W.zs (W : q_W) (k : Nat) : Int32 := W.za (fun _ => nI 0) W.c k
def q_W.all (W : q_W) : Int32 := q_sum (fun i => W.len (W.σ i)) W.c
theorem q_decB {b : Int32} {L a : Nat → Int32} {k : Nat} (ha : ∀ x, x < k → a x = q_dec b L (x + 1)) {j : Nat} (hj : j ≤ k) : (if j = 0 then nI 0 else a (j - 1)) = q_dec b L j := by
  cases j with
  | zero => rfl
  | succ j => rw [if_neg (by omega), Nat.add_sub_cancel, ha j (by omega)]
/-- the form of a day -/
def q_W.fm (W : q_W) (d : Nat) : Int32 := q_dec (nI 42) W.D d - q_dec (nI 7) W.D d
/-- decay without load -/
def q_dz (b : Int32) (v : Int32) : Nat → Int32
  | 0 => v
  | n + 1 => q_dz b v n + (nI 1000 * nI 0 - q_dz b v n) / b
/-- the form n days from today -/
def q_W.G (W : q_W) : Nat → Int32
  | 0 => W.fm W.t
  | n + 1 => q_dz (nI 42) (q_dec (nI 42) W.D (W.t + 1)) n - q_dz (nI 7) (q_dec (nI 7) W.D (W.t + 1)) n
/-- the greatest of n, at least 0 -/
def q_mz (f : Nat → Int32) : Nat → Int32
  | 0 => nI 0
  | n + 1 => if q_mz f n < f n then f n else q_mz f n
theorem q_sgn_lt (W : q_W) (d : Nat) : W.sgn d < 65536 := by
  unfold q_W.sgn
  have := q_br_le (W.zr d) 5
  split
  · omega
  split <;> omega
theorem q_char {n : Nat} (h : n < 65536) : vp_nar .char (nI n) = nI n := by unfold vp_nar; rw [(pk_charN h).1]
/-- the line behind n signs -/
def q_wl (W : q_W) (d : Nat) (g : Nat → Int32) (n : Nat) : Nat → Int32 := fun k => if k < 2 * n - 1 then (if k % 2 = 1 then nI 32 else nI (W.sgn (d + k / 2))) else g k
theorem q_wl_0 (W : q_W) (d : Nat) (g : Nat → Int32) : q_wl W d g 0 = g := by funext k; unfold q_wl; rw [if_neg (by omega)]
theorem q_wl_a (W : q_W) (d : Nat) (g : Nat → Int32) {n : Nat} (hn : n = 0) : va_up (q_wl W d g n) (2 * n) (nI (W.sgn (d + n))) = q_wl W d g (n + 1) := by
  subst hn
  funext k; unfold va_up q_wl
  by_cases e : k = 2 * 0
  · subst e; rw [if_pos rfl, if_pos (by omega), if_neg (by omega)]
  · rw [if_neg e]
    show (if k < 2 * 0 - 1 then _ else _) = _
    rw [if_neg (by omega), if_neg (by omega)]
theorem q_wl_b (W : q_W) (d : Nat) (g : Nat → Int32) {n : Nat} (hn : 0 < n) : va_up (va_up (q_wl W d g n) (2 * n - 1) (nI 32)) (2 * n) (nI (W.sgn (d + n))) = q_wl W d g (n + 1) := by
  funext k; unfold va_up q_wl
  by_cases e : k = 2 * n
  · subst e; rw [if_pos rfl, if_pos (by omega), if_neg (by omega), show 2 * n / 2 = n by omega]
  · rw [if_neg e]
    by_cases e2 : k = 2 * n - 1
    · subst e2; rw [if_pos rfl, if_pos (by omega), if_pos (by omega)]
    · rw [if_neg e2]
      show (if k < 2 * n - 1 then _ else _) = _
      by_cases e3 : k < 2 * n - 1
      · rw [if_pos (show k < 2 * (n + 1) - 1 by omega), if_pos e3]
      · rw [if_neg e3, if_neg (by omega)]
def q_O.wrt (O : q_O) (ln : Nat → Int32) : q_O := ((O.nx, O.cn), O.OB, (O.hs, O.SW), (13, ln))
theorem q_wrote {h : q_Hp} {W : q_W} {O : q_O} (C : q_cl' h W O) (L g : Nat → Int32) : q_mu h (((h.rowI 1052 L).rowI 1059 g).setI 1 5 (nI 13)) W (O.wrt L) 200 := by
  have hn : ∀ p, p ≠ 1 → p ≠ 1052 → p ≠ 1059 → (((h.rowI 1052 L).rowI 1059 g).setI 1 5 (nI 13)).I p = h.I p := fun p a b c => by rw [q_sIn _ _ _ a, q_rIn _ _ c, q_rIn _ _ b]
  obtain ⟨V, o, ⟨a1, a2, a3, a4⟩, b, ⟨s1, s2, s3, s4⟩, d1, d2, d3⟩ := C
  refine ⟨⟨V.cong (fun p h1 h2 => hn p (by omega) (by omega) (by omega)) rfl, o, ⟨?_, a2, ?_, a4⟩, fun j hj => ⟨(b j hj).1.cong (fun p h1 h2 => hn p (by omega) (by omega) (by omega)) rfl, (b j hj).2⟩, ⟨?_, s2, s3.cong (fun p h1 h2 => hn p (by omega) (by omega) (by omega)) rfl, s4⟩, ?_, ?_, ?_⟩, ⟨fun p hp => hn p (by omega) (by omega) (by omega), fun _ _ => rfl, rfl, rfl, rfl⟩, q_tf.of (hn _ (by omega) (by omega) (by omega)) (hn _ (by omega) (by omega) (by omega)) (hn _ (by omega) (by omega) (by omega))⟩
  · rw [hn 133 (by omega) (by omega) (by omega)]; exact a1
  · rw [hn 133 (by omega) (by omega) (by omega)]; exact a3
  · rw [q_sI, va_un _ _ (by decide), q_rIn _ _ (by omega), q_rIn _ _ (by omega)]; exact s1
  · rw [q_sI, va_us]; rfl
  · show 13 ≤ 13; omega
  · rw [q_sIn _ _ _ (by omega), q_rIn _ _ (by omega), q_rI]; rfl
theorem g_X9_zoneShare {Φ : q_Fx} {h : q_Hp} (K : q_Lk Φ h.R h.n) {W : q_W} {O : q_O} (C : q_clX h W O) {z : Int32} : q_Ct Φ false yX9_zoneShare cX9_zoneShare mX9_zoneShare [.ref 1, .int z] h (q_u2 h W O (¬ (nI 1 ≤ z ∧ z ≤ nI 5)) "java/lang/IllegalArgumentException" (W.all = 0) "java/lang/ArithmeticException" (fun v h' => v = some (.float (FP.fdiv (FP.i2f (W.zs z.toNatClampNeg)) (FP.i2f W.all))) ∧ q_rd h h' W O)) := by
  refine q_enter K.st rfl rfl (by decide) rfl (Nat.le_of_ble_eq_true rfl) (L := [_, _, none, none, none]) rfl ?_
  have C0 := C
  obtain ⟨k, hT⟩ := C.2
  have hk2 : k ≤ W.t + 1 := hT.2.1
  have V0 := C.1.1
  have V := C.1.1
  have ht9 := V.t9
  have hc40 := V.c40
  refine q_iload_n dX9_zoneShare_0 rfl ?_
  refine q_sT (kc := 1) (ks := 6) (g_X9_requireZone (h := h) K (z := z)) wX9_requireZone kX9_146 sX9_requireZone (by decide) rfl rfl (Nat.le_of_ble_eq_true rfl) dX9_zoneShare_1 rfl rfl rfl (fun c1 => by exact Or.inl ⟨c1, rfl, q_rd.rf C⟩) (fun c2 => ?_)
  have n1 := c2
  obtain ⟨j, hj1, hj2, rfl⟩ := q_rng n1 (by omega) (by omega)
  try rw [nI_clamp (show j < 2 ^ 31 by omega)]
  refine q_aload_n dX9_zoneShare_4 rfl ?_
  refine fRX9_59 (o := some 1059) dX9_zoneShare_5 rfl (by decide) (K.le (by decide)) (K.lk rfl) ?_
  refine q_rfS ?_
  refine q_sD (kc := 1) (ks := 6) (g_clear59 (h := h) K) wX9_clear kX9_212 sX9_clear (by decide) rfl rfl (Nat.le_of_ble_eq_true rfl) dX9_zoneShare_8 rfl rfl ?_
  have hg59 : ∀ k, k < 6 → q_cpy (fun _ => nI 0) (h.I 1059) 6 k = nI 0 := fun k hk => q_cpy_lt _ _ hk
  generalize q_cpy (fun _ => nI 0) (h.I 1059) 6 = g59 at hg59 ⊢
  refine q_iconst (v := nI 0) dX9_zoneShare_11 (by decide) ?_
  refine q_istore_n (L' := [_, _, _, _, _]) dX9_zoneShare_12 rfl (by decide) rfl ?_
  refine q_iconst (v := nI 0) dX9_zoneShare_13 (by decide) ?_
  refine q_istore_n (L' := [_, _, _, _, _]) dX9_zoneShare_14 rfl (by decide) rfl ?_
  refine q_loop (ι := Nat) (μ := fun i => W.c - i) (P := fun i => i ≤ W.c) (Lf := fun i => [some (.ref 1), some (.int (nI (j))), some (.int (q_sum (fun i => W.len (W.σ i)) i)), some (.int (nI (i))), none]) (hf := fun i => (h.rowI 1059 (W.za g59 i))) (fun i hi15 ih15 => ?_) 0 (by omega) (q_sub_s rfl (q_sub_i rfl (q_sub_i rfl (q_sub_i rfl (q_sub_n q_sub_0))))) rfl
  skip
  refine q_iload_n dX9_zoneShare_15 rfl ?_
  refine q_aload_n dX9_zoneShare_16 rfl ?_
  refine fRX9_12 (o := some 2) dX9_zoneShare_17 rfl (by decide) (K.le (by decide)) (K.lk rfl) ?_
  refine q_rfS ?_
  refine fRX9_156 (o := some 9) dX9_zoneShare_20 rfl (by decide) (K.le (by decide)) (K.lk rfl) ?_
  refine q_rfS ?_
  refine fIX9_160 dX9_zoneShare_23 rfl (by decide) (K.le (by decide)) ?_
  refine q_tv (show _ = (nI (W.c)) from ((congrFun (q_rIn _ _ (by omega)) _).trans V.c)) ?_
  refine q_icmp_geN (by omega) (by omega) (tgt := 70) dX9_zoneShare_26 rfl (fun c3 => ?_) (fun c4 => ?_)
  · have ei : i = W.c := by omega
    refine q_iload_n dX9_zoneShare_70 rfl ?_
    refine q_if_ne (tgt := 84) dX9_zoneShare_71 rfl (fun c5 => ?_) (fun c6 => ?_)
    · refine q_aload_n dX9_zoneShare_84 rfl ?_
      refine fRX9_59 (o := some 1059) dX9_zoneShare_85 rfl (by decide) (K.le (by decide)) (K.lk rfl) ?_
      refine q_rfS ?_
      refine q_iload_n dX9_zoneShare_88 rfl ?_
      refine q_ialdN (len := 6) rfl dX9_zoneShare_89 (by decide) (K.le (by decide)) rfl (by omega) (by decide) ?_
      refine q_tv (show _ = (W.za g59 i (j)) from ((congrFun (q_rI _ _ _) _).trans rfl)) ?_
      refine q_i2f dX9_zoneShare_90 ?_
      refine q_iload_n dX9_zoneShare_91 rfl ?_
      refine q_i2f dX9_zoneShare_92 ?_
      refine q_fdiv dX9_zoneShare_93 (q_fdn (by assumption)) ?_
      refine q_fret dX9_zoneShare_94 rfl (Or.inl rfl) ?_
      exact Or.inr (Or.inr ⟨n1, (by unfold q_W.all; rw [← ei]; assumption), _, rfl, by rw [ei, W.za_in hg59 _ _ (by omega)]; rfl, (q_rd.rf C).row (by omega) (by omega)⟩)
    · refine q_throw (text := "there are no minutes") tw_226_230 (by decide) rfl ?_ dX9_zoneShare_74 dX9_zoneShare_77 dX9_zoneShare_78 dX9_zoneShare_80 dX9_zoneShare_83 (by decide) (by decide) (by decide) (by decide)
      exact Or.inr (Or.inl ⟨n1, by unfold q_W.all; rw [← ei]; assumption, rfl, (q_rd.rf C).row (by omega) (by omega)⟩)
  · refine q_aload_n dX9_zoneShare_29 rfl ?_
    refine fRX9_12 (o := some 2) dX9_zoneShare_30 rfl (by decide) (K.le (by decide)) (K.lk rfl) ?_
    refine q_rfS ?_
    refine fRX9_156 (o := some 9) dX9_zoneShare_33 rfl (by decide) (K.le (by decide)) (K.lk rfl) ?_
    refine q_rfS ?_
    refine fRX9_205 (o := some 10) dX9_zoneShare_36 rfl (by decide) (K.le (by decide)) (K.lk rfl) ?_
    refine q_rfS ?_
    refine q_iload_n dX9_zoneShare_39 rfl ?_
    refine q_aaldN (len := 40) (o := some (11 + 3 * W.σ (i))) (by decide) (by decide) dX9_zoneShare_40 (by decide) (K.le (by decide)) rfl (by omega) (by decide) (V.sg (by omega)) ?_
    refine q_rfS ?_
    refine q_astore (L' := [_, _, _, _, _]) dX9_zoneShare_41 rfl (by decide) rfl ?_
    refine q_aload_n dX9_zoneShare_43 rfl ?_
    refine fRX9_12 (o := some 2) dX9_zoneShare_44 rfl (by decide) (K.le (by decide)) (K.lk rfl) ?_
    refine q_rfS ?_
    refine q_aload dX9_zoneShare_47 rfl ?_
    refine q_aload_n dX9_zoneShare_49 rfl ?_
    refine fRX9_59 (o := some 1059) dX9_zoneShare_50 rfl (by decide) (K.le (by decide)) (K.lk rfl) ?_
    refine q_rfS ?_
    refine q_vD (kc := 1) (ks := 6) (g_X5_addZoneMinutes (h := (h.rowI 1059 (W.za g59 i))) K (V.row (a := 1059) (by decide)) (V.s40 (i := (i)) (by omega))) wX5_addZoneMinutes kX9_215 iX5_addZoneMinutes eX5_addZoneMinutes rfl rfl (by decide) (K.le (by decide)) (by decide) rfl rfl (Nat.le_of_ble_eq_true rfl) dX9_zoneShare_53 rfl rfl ?_
    rw [q_rr, q_rI]
    refine q_iload_n dX9_zoneShare_56 rfl ?_
    refine q_aload dX9_zoneShare_57 rfl ?_
    refine q_vD (kc := 1) (ks := 6) (g_X3_length (h := (h.rowI 1059 (q_az (W.za g59 i) (W.z (W.σ (i))) (W.mn (W.σ (i))) (W.pn (W.σ (i)))))) K (V.row (a := 1059) (by decide)) (V.s40 (i := (i)) (by omega))) wX3_length kX9_177 iX3_length eX3_length (q_ts (V.s40 (i := (i)) (by omega))) rfl (by omega) (K.le (q_bs (V.s40 (i := (i)) (by omega)))) (by decide) rfl rfl (Nat.le_of_ble_eq_true rfl) dX9_zoneShare_59 rfl rfl ?_
    refine q_iadd dX9_zoneShare_62 ?_
    refine q_istore_n (L' := [_, _, _, _, _]) dX9_zoneShare_63 rfl (by decide) rfl ?_
    refine q_iincN (n := 1) (L' := [_, _, _, _, _]) (by decide) dX9_zoneShare_64 rfl rfl (by decide) rfl ?_
    refine q_goto (tgt := 15) dX9_zoneShare_67 rfl ?_
    exact q_to (ih15 (i + 1) (by omega) (by omega)) (q_sub_s rfl (q_sub_i rfl (q_sub_i rfl (q_sub_i rfl (q_sub_n q_sub_0))))) rfl
theorem q_rowt {t j : Nat} (h : ¬ nI t < nI j - nI 1) (h1 : 1 ≤ j) (ht : t < 2 ^ 30) (hj : j < 2 ^ 30) : j ≤ t + 1 := by
  rw [pk_sub h1, nI_ltI (by omega) (by omega)] at h
  omega
theorem q_row0 {t j : Nat} (h1 : 1 ≤ j) (ht : t < 2 ^ 30) (hj : j < 2 ^ 30) : (¬ nI t < nI j - nI 1) ↔ j ≤ t + 1 := by
  rw [pk_sub h1, nI_ltI (by omega) (by omega)]
  omega
theorem q_bp_lt {W : q_W} {n : Int32} {j : Nat} (h : ¬ q_any (fun i => decide (n ≤ W.len (W.σ i))) W.c = false) : W.bp j < W.c := by
  have hc : 0 < W.c := Nat.pos_of_ne_zero fun e => h (by rw [e]; rfl)
  have key : ∀ c, 0 < c → q_bp (fun i => W.ef (W.σ i) j) c < c := by
    intro c
    induction c with
    | zero => intro h; exact absurd h (Nat.lt_irrefl 0)
    | succ c ih =>
      intro _
      unfold q_bp
      split
      · omega
      · by_cases e : c = 0
        · subst e; exact Nat.one_pos
        · have := ih (by omega); omega
  exact key _ hc
theorem g_X9_dueEntry {Φ : q_Fx} {h : q_Hp} (K : q_Lk Φ h.R h.n) {W : q_W} {O : q_O} (C : q_clX h W O) : q_Ct Φ false yX9_dueEntry cX9_dueEntry mX9_dueEntry [.ref 1] h (q_u1 h W O (W.pc ≤ W.due) "java/util/NoSuchElementException" (fun v h' => v = some (.int (nI W.due)) ∧ q_rd h h' W O)) := by
  refine q_enter K.st rfl rfl (by decide) rfl (Nat.le_of_ble_eq_true rfl) (L := [_]) rfl ?_
  have C0 := C
  obtain ⟨k, hT⟩ := C.2
  have hk2 : k ≤ W.t + 1 := hT.2.1
  have V0 := C.1.1
  have V := C.1.1
  have ht9 := V.t9
  have hle : W.due ≤ W.pc := (W.fo_le _).1
  have hp28 := V.pc28
  have hpe := V.pe1
  refine q_aload_n dX9_dueEntry_0 rfl ?_
  refine q_vG (kc := 0) (ks := 0) (g_X9_existingDueEntry (h := h) K V) wX9_existingDueEntry kX9_308 iX9_existingDueEntry eX9_existingDueEntry rfl rfl (by decide) (K.le (by decide)) (by decide) rfl rfl (Nat.le_of_ble_eq_true rfl) dX9_dueEntry_1 rfl rfl rfl ?_ ?_
  · rintro E h' ⟨g57, g56, rfl, hq | hq⟩
    · obtain ⟨hdue, hq⟩ := hq
      cases hq
      exact Or.inl ⟨hdue, rfl, ((q_rd.rf C).row (by omega) (by omega)).row (by omega) (by omega)⟩
    · exact nomatch hq.2
  rintro v h' ⟨g57, g56, rfl, hq | hq⟩
  · exact nomatch hq.2
  obtain ⟨hdue, hq⟩ := hq
  cases hq
  refine q_iret dX9_dueEntry_4 rfl (Or.inl rfl) ?_
  exact Or.inr ⟨(by omega), _, rfl, rfl, ((q_rd.rf C).row (by omega) (by omega)).row (by omega) (by omega)⟩
theorem g_X9_planEnd {Φ : q_Fx} {h : q_Hp} (K : q_Lk Φ h.R h.n) {W : q_W} {O : q_O} (C : q_clX h W O) : q_Ct Φ false yX9_planEnd cX9_planEnd mX9_planEnd [.ref 1] h (q_u1 h W O (W.pc ≤ W.due) "java/util/NoSuchElementException" (fun v h' => v = some (.int (nI W.t + ((nI W.pc - nI 1) - nI W.due))) ∧ q_rd h h' W O)) := by
  refine q_enter K.st rfl rfl (by decide) rfl (Nat.le_of_ble_eq_true rfl) (L := [_, none]) rfl ?_
  have C0 := C
  obtain ⟨k, hT⟩ := C.2
  have hk2 : k ≤ W.t + 1 := hT.2.1
  have V0 := C.1.1
  have V := C.1.1
  have ht9 := V.t9
  have hle : W.due ≤ W.pc := (W.fo_le _).1
  have hp28 := V.pc28
  have hpe := V.pe1
  refine q_aload_n dX9_planEnd_0 rfl ?_
  refine fRX9_12 (o := some 2) dX9_planEnd_1 rfl (by decide) (K.le (by decide)) (K.lk rfl) ?_
  refine q_rfS ?_
  refine fRX9_281 (o := some 131) dX9_planEnd_4 rfl (by decide) (K.le (by decide)) (K.lk rfl) ?_
  refine q_rfS ?_
  refine fIX9_285 dX9_planEnd_7 rfl (by decide) (K.le (by decide)) ?_
  refine q_tv (show _ = (nI (W.pc)) from V.pc) ?_
  refine q_iconst (v := nI 1) dX9_planEnd_10 (by decide) ?_
  refine q_isub dX9_planEnd_11 ?_
  refine q_aload_n dX9_planEnd_12 rfl ?_
  refine q_vG (kc := 0) (ks := 0) (g_X9_existingDueEntry (h := h) K V) wX9_existingDueEntry kX9_308 iX9_existingDueEntry eX9_existingDueEntry rfl rfl (by decide) (K.le (by decide)) (by decide) rfl rfl (Nat.le_of_ble_eq_true rfl) dX9_planEnd_13 rfl rfl rfl ?_ ?_
  · rintro E h' ⟨g57, g56, rfl, hq | hq⟩
    · obtain ⟨hdue, hq⟩ := hq
      cases hq
      exact Or.inl ⟨hdue, rfl, ((q_rd.rf C).row (by omega) (by omega)).row (by omega) (by omega)⟩
    · exact nomatch hq.2
  rintro v h' ⟨g57, g56, rfl, hq | hq⟩
  · exact nomatch hq.2
  obtain ⟨hdue, hq⟩ := hq
  cases hq
  refine q_isub dX9_planEnd_16 ?_
  refine q_istore_n (L' := [_, _]) dX9_planEnd_17 rfl (by decide) rfl ?_
  refine q_aload_n dX9_planEnd_18 rfl ?_
  refine fRX9_12 (o := some 2) dX9_planEnd_19 rfl (by decide) (K.le (by decide)) (K.lk rfl) ?_
  refine q_rfS ?_
  refine fIX9_69 dX9_planEnd_22 rfl (by decide) (K.le (by decide)) ?_
  refine q_tv (show _ = (nI (W.t)) from ((congrFun (q_rIn _ _ (by omega)) _).trans ((congrFun (q_rIn _ _ (by omega)) _).trans V.t))) ?_
  refine q_iload_n dX9_planEnd_25 rfl ?_
  refine q_iadd dX9_planEnd_26 ?_
  refine q_iret dX9_planEnd_27 rfl (Or.inl rfl) ?_
  exact Or.inr ⟨(by omega), _, rfl, rfl, ((q_rd.rf C).row (by omega) (by omega)).row (by omega) (by omega)⟩
theorem g_X9_missedDays {Φ : q_Fx} {h : q_Hp} (K : q_Lk Φ h.R h.n) {W : q_W} {O : q_O} (C : q_clX h W O) : q_Ct Φ false yX9_missedDays cX9_missedDays mX9_missedDays [.ref 1] h (q_ex (fun v h' => v = some (.int (nI W.mis)) ∧ q_rd h h' W O)) := by
  refine q_enter K.st rfl rfl (by decide) rfl (Nat.le_of_ble_eq_true rfl) (L := [_]) rfl ?_
  have C0 := C
  obtain ⟨k, hT⟩ := C.2
  have hk2 : k ≤ W.t + 1 := hT.2.1
  have V0 := C.1.1
  have V := C.1.1
  have ht9 := V.t9
  have hle : W.due ≤ W.pc := (W.fo_le _).1
  have hp28 := V.pc28
  have hpe := V.pe1
  refine q_aload_n dX9_missedDays_0 rfl ?_
  refine q_vR (kc := 0) (ks := 0) (g_X9_followPlan (h := h) K V) wX9_followPlan kX9_311 iX9_followPlan eX9_followPlan rfl rfl (by decide) (K.le (by decide)) (by decide) rfl rfl (Nat.le_of_ble_eq_true rfl) dX9_missedDays_1 rfl rfl ?_
  rintro v h' ⟨rfl, g57, g56, rfl, hg0, hg1, hg2⟩
  refine q_aload_n dX9_missedDays_4 rfl ?_
  refine fRX9_48 (o := some 1056) dX9_missedDays_5 rfl (by decide) (K.le (by decide)) (K.lk rfl) ?_
  refine q_rfS ?_
  refine fIX9_314 dX9_missedDays_8 rfl (by decide) (K.le (by decide)) ?_
  refine q_tv (show _ = (nI (W.mis)) from ((congrFun (q_rI _ _ _) _).trans hg1)) ?_
  refine q_iret dX9_missedDays_11 rfl (Or.inl rfl) ?_
  exact ⟨_, rfl, rfl, ((q_rd.rf C).row (by omega) (by omega)).row (by omega) (by omega)⟩
theorem g_X9_droppedEntries {Φ : q_Fx} {h : q_Hp} (K : q_Lk Φ h.R h.n) {W : q_W} {O : q_O} (C : q_clX h W O) : q_Ct Φ false yX9_droppedEntries cX9_droppedEntries mX9_droppedEntries [.ref 1] h (q_ex (fun v h' => v = some (.int (nI W.drp)) ∧ q_rd h h' W O)) := by
  refine q_enter K.st rfl rfl (by decide) rfl (Nat.le_of_ble_eq_true rfl) (L := [_]) rfl ?_
  have C0 := C
  obtain ⟨k, hT⟩ := C.2
  have hk2 : k ≤ W.t + 1 := hT.2.1
  have V0 := C.1.1
  have V := C.1.1
  have ht9 := V.t9
  have hle : W.due ≤ W.pc := (W.fo_le _).1
  have hp28 := V.pc28
  have hpe := V.pe1
  refine q_aload_n dX9_droppedEntries_0 rfl ?_
  refine q_vR (kc := 0) (ks := 0) (g_X9_followPlan (h := h) K V) wX9_followPlan kX9_311 iX9_followPlan eX9_followPlan rfl rfl (by decide) (K.le (by decide)) (by decide) rfl rfl (Nat.le_of_ble_eq_true rfl) dX9_droppedEntries_1 rfl rfl ?_
  rintro v h' ⟨rfl, g57, g56, rfl, hg0, hg1, hg2⟩
  refine q_aload_n dX9_droppedEntries_4 rfl ?_
  refine fRX9_48 (o := some 1056) dX9_droppedEntries_5 rfl (by decide) (K.le (by decide)) (K.lk rfl) ?_
  refine q_rfS ?_
  refine fIX9_317 dX9_droppedEntries_8 rfl (by decide) (K.le (by decide)) ?_
  refine q_tv (show _ = (nI (W.drp)) from ((congrFun (q_rI _ _ _) _).trans hg2)) ?_
  refine q_iret dX9_droppedEntries_11 rfl (Or.inl rfl) ?_
  exact ⟨_, rfl, rfl, ((q_rd.rf C).row (by omega) (by omega)).row (by omega) (by omega)⟩
theorem g_X9_isPlanOver {Φ : q_Fx} {h : q_Hp} (K : q_Lk Φ h.R h.n) {W : q_W} {O : q_O} (C : q_clX h W O) : q_Ct Φ false yX9_isPlanOver cX9_isPlanOver mX9_isPlanOver [.ref 1] h (q_ex (fun v h' => v = some (.int (q_bl (decide (W.pe = 1 ∧ W.pc ≤ W.due)))) ∧ q_rd h h' W O)) := by
  refine q_enter K.st rfl rfl (by decide) rfl (Nat.le_of_ble_eq_true rfl) (L := [_]) rfl ?_
  have C0 := C
  obtain ⟨k, hT⟩ := C.2
  have hk2 : k ≤ W.t + 1 := hT.2.1
  have V0 := C.1.1
  have V := C.1.1
  have ht9 := V.t9
  have hle : W.due ≤ W.pc := (W.fo_le _).1
  have hp28 := V.pc28
  have hpe := V.pe1
  refine q_aload_n dX9_isPlanOver_0 rfl ?_
  refine q_vR (kc := 0) (ks := 0) (g_X9_followPlan (h := h) K V) wX9_followPlan kX9_311 iX9_followPlan eX9_followPlan rfl rfl (by decide) (K.le (by decide)) (by decide) rfl rfl (Nat.le_of_ble_eq_true rfl) dX9_isPlanOver_1 rfl rfl ?_
  rintro v h' ⟨rfl, g57, g56, rfl, hg0, hg1, hg2⟩
  refine q_aload_n dX9_isPlanOver_4 rfl ?_
  refine fRX9_12 (o := some 2) dX9_isPlanOver_5 rfl (by decide) (K.le (by decide)) (K.lk rfl) ?_
  refine q_rfS ?_
  refine fRX9_281 (o := some 131) dX9_isPlanOver_8 rfl (by decide) (K.le (by decide)) (K.lk rfl) ?_
  refine q_rfS ?_
  refine fIX9_293 dX9_isPlanOver_11 rfl (by decide) (K.le (by decide)) ?_
  refine q_tv (show _ = (nI (W.pe)) from ((congrFun (q_rIn _ _ (by omega)) _).trans ((congrFun (q_rIn _ _ (by omega)) _).trans V.pe))) ?_
  refine q_if_eqN (by omega) (tgt := 41) dX9_isPlanOver_14 rfl (fun c1 => ?_) (fun c2 => ?_)
  · refine q_iconst (v := nI 0) dX9_isPlanOver_41 (by decide) ?_
    refine q_zret (ty := .boolean) dX9_isPlanOver_42 rfl rfl (Or.inl rfl) ?_
    exact ⟨_, rfl, by simp only [q_bl]; split <;> first | rfl | (exfalso; simp only [decide_eq_true_eq] at *; omega), ((q_rd.rf C).row (by omega) (by omega)).row (by omega) (by omega)⟩
  · refine q_aload_n dX9_isPlanOver_17 rfl ?_
    refine fRX9_48 (o := some 1056) dX9_isPlanOver_18 rfl (by decide) (K.le (by decide)) (K.lk rfl) ?_
    refine q_rfS ?_
    refine fIX9_320 dX9_isPlanOver_21 rfl (by decide) (K.le (by decide)) ?_
    refine q_tv (show _ = (nI (W.due)) from ((congrFun (q_rI _ _ _) _).trans hg0)) ?_
    refine q_aload_n dX9_isPlanOver_24 rfl ?_
    refine fRX9_12 (o := some 2) dX9_isPlanOver_25 rfl (by decide) (K.le (by decide)) (K.lk rfl) ?_
    refine q_rfS ?_
    refine fRX9_281 (o := some 131) dX9_isPlanOver_28 rfl (by decide) (K.le (by decide)) (K.lk rfl) ?_
    refine q_rfS ?_
    refine fIX9_285 dX9_isPlanOver_31 rfl (by decide) (K.le (by decide)) ?_
    refine q_tv (show _ = (nI (W.pc)) from ((congrFun (q_rIn _ _ (by omega)) _).trans ((congrFun (q_rIn _ _ (by omega)) _).trans V.pc))) ?_
    refine q_icmp_ltN (by omega) (by omega) (tgt := 41) dX9_isPlanOver_34 rfl (fun c3 => ?_) (fun c4 => ?_)
    · refine q_iconst (v := nI 0) dX9_isPlanOver_41 (by decide) ?_
      refine q_zret (ty := .boolean) dX9_isPlanOver_42 rfl rfl (Or.inl rfl) ?_
      exact ⟨_, rfl, by simp only [q_bl]; split <;> first | rfl | (exfalso; simp only [decide_eq_true_eq] at *; omega), ((q_rd.rf C).row (by omega) (by omega)).row (by omega) (by omega)⟩
    · refine q_iconst (v := nI 1) dX9_isPlanOver_37 (by decide) ?_
      refine q_goto (tgt := 42) dX9_isPlanOver_38 rfl ?_
      refine q_zret (ty := .boolean) dX9_isPlanOver_42 rfl rfl (Or.inl rfl) ?_
      exact ⟨_, rfl, by simp only [q_bl]; split <;> first | rfl | (exfalso; simp only [decide_eq_true_eq] at *; omega), ((q_rd.rf C).row (by omega) (by omega)).row (by omega) (by omega)⟩
theorem g_X9_writeWeek {Φ : q_Fx} {h : q_Hp} (K : q_Lk Φ h.R h.n) {W : q_W} {O : q_O} (C : q_clX h W O) {d : Int32} : q_Ct Φ false yX9_writeWeek cX9_writeWeek mX9_writeWeek [.ref 1, .int d] h (q_u1 h W O (¬ (nI 0 ≤ d ∧ d ≤ nI W.t)) "java/lang/IllegalArgumentException" (fun v h' => v = some (.int (nI 13)) ∧ ∃ ln, (∀ k, k < 13 → ln k = if k % 2 = 1 then nI 32 else nI (W.sgn (d.toNatClampNeg + k / 2))) ∧ q_mu h h' W (O.wrt ln) 200)) := by
  refine q_enter K.st rfl rfl (by decide) rfl (Nat.le_of_ble_eq_true rfl) (L := [_, _, none]) rfl ?_
  have C0 := C
  obtain ⟨k, hT⟩ := C.2
  have hk2 : k ≤ W.t + 1 := hT.2.1
  have V0 := C.1.1
  have V := C.1.1
  have ht9 := V.t9
  refine q_aload_n dX9_writeWeek_0 rfl ?_
  refine q_iload_n dX9_writeWeek_1 rfl ?_
  refine q_vT (kc := 0) (ks := 0) (g_X9_requireDayUpToToday (h := h) K V (d := d)) wX9_requireDayUpToToday kX9_83 iX9_requireDayUpToToday eX9_requireDayUpToToday rfl rfl (by decide) (K.le (by decide)) (by decide) rfl rfl (Nat.le_of_ble_eq_true rfl) dX9_writeWeek_2 rfl rfl rfl (fun c1 => by exact Or.inl ⟨c1, rfl, q_rd.rf C⟩) (fun c2 => ?_)
  have n2 := c2
  obtain ⟨j, hj1, hj2, rfl⟩ := q_rng n2 (by omega) (by omega)
  try rw [nI_clamp (show j < 2 ^ 31 by omega)]
  refine q_iconst (v := nI 0) dX9_writeWeek_5 (by decide) ?_
  refine q_istore_n (L' := [_, _, _]) dX9_writeWeek_6 rfl (by decide) rfl ?_
  refine q_loop (ι := Nat × (Nat → Int32)) (μ := fun x => 7 - x.1) (P := fun x => x.1 ≤ 7) (Lf := fun x => [some (.ref 1), some (.int (nI (j))), some (.int (nI (x.1)))]) (hf := fun x => ((h.rowI 1052 (q_wl W j (h.I 1052) x.1)).rowI 1059 x.2)) (fun x hi7 ih7 => ?_) (0, h.I 1059) (Nat.zero_le _) (q_sub_s rfl (q_sub_i rfl (q_sub_i rfl q_sub_0))) (by rw [q_wl_0, show h.I 1059 = (h.rowI 1052 (h.I 1052)).I 1059 from rfl, q_rid, q_rid])
  skip
  refine q_iload_n dX9_writeWeek_7 rfl ?_
  refine q_bipush (v := nI 7) dX9_writeWeek_8 (by decide) ?_
  refine q_icmp_geN (by omega) (by omega) (tgt := 50) dX9_writeWeek_10 rfl (fun c3 => ?_) (fun c4 => ?_)
  · refine q_aload_n dX9_writeWeek_50 rfl ?_
    refine q_bipush (v := nI 13) dX9_writeWeek_51 (by decide) ?_
    refine pIX9_34 dX9_writeWeek_53 rfl (by decide) (K.le (by decide)) ?_
    refine q_aload_n dX9_writeWeek_56 rfl ?_
    refine fIX9_34 dX9_writeWeek_57 rfl (by decide) (K.le (by decide)) ?_
    refine q_tv (show _ = (nI (13)) from ((congrFun (q_sI _ _ _ _) _).trans (va_us _ _ _))) ?_
    refine q_iret dX9_writeWeek_60 rfl (Or.inl rfl) ?_
    have e : x.1 = 7 := by omega
    exact Or.inr ⟨n2, _, rfl, rfl, _, fun k hk => (by show (if k < 2 * x.1 - 1 then _ else _) = _; rw [if_pos (by omega)]), q_wrote C.1 _ _⟩
  · refine q_iload_n dX9_writeWeek_13 rfl ?_
    refine q_if_leN (by omega) (tgt := 29) dX9_writeWeek_14 rfl (fun c5 => ?_) (fun c6 => ?_)
    · refine q_aload_n dX9_writeWeek_29 rfl ?_
      refine fRX9_30 (o := some 1052) dX9_writeWeek_30 rfl (by decide) (K.le (by decide)) (K.lk rfl) ?_
      refine q_rfS ?_
      refine q_iconst (v := nI 2) dX9_writeWeek_33 (by decide) ?_
      refine q_iload_n dX9_writeWeek_34 rfl ?_
      refine q_imulN dX9_writeWeek_35 ?_
      refine q_aload_n dX9_writeWeek_36 rfl ?_
      refine q_iload_n dX9_writeWeek_37 rfl ?_
      refine q_iload_n dX9_writeWeek_38 rfl ?_
      refine q_iaddN dX9_writeWeek_39 ?_
      refine q_vR (kc := 0) (ks := 0) (g_X9_signOfDay (h := ((h.rowI 1052 (q_wl W j (h.I 1052) x.1)).rowI 1059 x.2)) K ((V.row (a := 1052) (by decide)).row (a := 1059) (by decide)) (d := (j) + (x.1)) (by omega)) wX9_signOfDay kX9_323 iX9_signOfDay eX9_signOfDay rfl rfl (by decide) (K.le (by decide)) (by decide) rfl rfl (Nat.le_of_ble_eq_true rfl) dX9_writeWeek_40 rfl rfl ?_
      rintro v h' ⟨rfl, g59, rfl⟩
      refine q_castN (len := 13) rfl dX9_writeWeek_43 (by decide) (K.le (by decide)) rfl (by omega) (by decide) (q_char (q_sgn_lt _ _)) ?_
      refine q_iincN (n := 1) (L' := [_, _, _]) (by decide) dX9_writeWeek_44 rfl rfl (by decide) rfl ?_
      refine q_goto (tgt := 7) dX9_writeWeek_47 rfl ?_
      exact q_to (ih7 (x.1 + 1, g59) (by show x.1 + 1 ≤ 7; omega) (by show 7 - (x.1 + 1) < 7 - x.1; omega)) (q_sub_s rfl (q_sub_i rfl (q_sub_i rfl q_sub_0))) (by first | (rw [q_rset2 _ _ _ _ _ (by decide), q_rr, q_rset2 _ _ _ _ _ (by decide), q_wl_b _ _ _ (by omega)]) | (rw [q_rr, q_rset2 _ _ _ _ _ (by decide), q_wl_a _ _ _ (by omega)]))
    · refine q_aload_n dX9_writeWeek_17 rfl ?_
      refine fRX9_30 (o := some 1052) dX9_writeWeek_18 rfl (by decide) (K.le (by decide)) (K.lk rfl) ?_
      refine q_rfS ?_
      refine q_iconst (v := nI 2) dX9_writeWeek_21 (by decide) ?_
      refine q_iload_n dX9_writeWeek_22 rfl ?_
      refine q_imulN dX9_writeWeek_23 ?_
      refine q_iconst (v := nI 1) dX9_writeWeek_24 (by decide) ?_
      refine q_isubN (by omega) dX9_writeWeek_25 ?_
      refine q_bipush (v := nI 32) dX9_writeWeek_26 (by decide) ?_
      refine q_castN (len := 13) rfl dX9_writeWeek_28 (by decide) (K.le (by decide)) rfl (by omega) (by decide) (by decide) ?_
      refine q_aload_n dX9_writeWeek_29 rfl ?_
      refine fRX9_30 (o := some 1052) dX9_writeWeek_30 rfl (by decide) (K.le (by decide)) (K.lk rfl) ?_
      refine q_rfS ?_
      refine q_iconst (v := nI 2) dX9_writeWeek_33 (by decide) ?_
      refine q_iload_n dX9_writeWeek_34 rfl ?_
      refine q_imulN dX9_writeWeek_35 ?_
      refine q_aload_n dX9_writeWeek_36 rfl ?_
      refine q_iload_n dX9_writeWeek_37 rfl ?_
      refine q_iload_n dX9_writeWeek_38 rfl ?_
      refine q_iaddN dX9_writeWeek_39 ?_
      refine q_vR (kc := 0) (ks := 0) (g_X9_signOfDay (h := (((h.rowI 1052 (q_wl W j (h.I 1052) x.1)).rowI 1059 x.2).setI 1052 (((2) * (x.1)) - (1)) (nI (32)))) K (((V.row (a := 1052) (by decide)).row (a := 1059) (by decide)).set (a := 1052) (by decide)) (d := (j) + (x.1)) (by omega)) wX9_signOfDay kX9_323 iX9_signOfDay eX9_signOfDay rfl rfl (by decide) (K.le (by decide)) (by decide) rfl rfl (Nat.le_of_ble_eq_true rfl) dX9_writeWeek_40 rfl rfl ?_
      rintro v h' ⟨rfl, g59, rfl⟩
      refine q_castN (len := 13) rfl dX9_writeWeek_43 (by decide) (K.le (by decide)) rfl (by omega) (by decide) (q_char (q_sgn_lt _ _)) ?_
      refine q_iincN (n := 1) (L' := [_, _, _]) (by decide) dX9_writeWeek_44 rfl rfl (by decide) rfl ?_
      refine q_goto (tgt := 7) dX9_writeWeek_47 rfl ?_
      exact q_to (ih7 (x.1 + 1, g59) (by show x.1 + 1 ≤ 7; omega) (by show 7 - (x.1 + 1) < 7 - x.1; omega)) (q_sub_s rfl (q_sub_i rfl (q_sub_i rfl q_sub_0))) (by first | (rw [q_rset2 _ _ _ _ _ (by decide), q_rr, q_rset2 _ _ _ _ _ (by decide), q_wl_b _ _ _ (by omega)]) | (rw [q_rr, q_rset2 _ _ _ _ _ (by decide), q_wl_a _ _ _ (by omega)]))
