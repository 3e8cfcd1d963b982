/-! WHAT STANDS BESIDE THE STATE; THE ORDER OF SESSIONS -/
/-- history: next, how many, the States; snapshot: there, State; line: length, characters -/
def q_O : Type := (Nat × Nat) × (Nat → q_W) × (Nat × q_W) × (Nat × (Nat → Int32))
def q_O.nx (O : q_O) : Nat := O.1.1
def q_O.cn (O : q_O) : Nat := O.1.2
def q_O.OB (O : q_O) : Nat → q_W := O.2.1
def q_O.hs (O : q_O) : Nat := O.2.2.1.1
def q_O.SW (O : q_O) : q_W := O.2.2.1.2
def q_O.ll (O : q_O) : Nat := O.2.2.2.1
def q_O.ln (O : q_O) : Nat → Int32 := O.2.2.2.2
/-- all but the State of now and the trend -/
def q_ob (h : q_Hp) (O : q_O) : Prop :=
  (h.I 133 1 = nI O.nx ∧ O.nx < 6 ∧ h.I 133 2 = nI O.cn ∧ O.cn ≤ 6) ∧ (∀ j, j < 6 → q_vB (135 + 131 * j) h.I h.R (O.OB j) ∧ q_ok0 (O.OB j)) ∧
  (h.I 1 3 = nI O.hs ∧ O.hs ≤ 1 ∧ q_vB 921 h.I h.R O.SW ∧ q_ok0 O.SW) ∧ h.I 1 5 = nI O.ll ∧ O.ll ≤ 13 ∧ h.I 1052 = O.ln
def q_cl' (h : q_Hp) (W : q_W) (O : q_O) : Prop := q_vw h W ∧ q_ok0 W ∧ q_ob h O
theorem q_vB.congO {B : Nat} {I I' : Nat → Nat → Int32} {R R' : Nat → Nat → Option Nat} {W : q_W} (V : q_vB B I R W) (hI : ∀ p, B ≤ p → p < B + 131 → I' p = I p) (hR : R' (B + 8) = R (B + 8)) : q_vB B I' R' W := V.cong hI hR
/-- the rest stands where places 1, 133 .. 1052 stand, and links but those at 10 -/
theorem q_ob.cong {h h' : q_Hp} {O : q_O} (C : q_ob h O) (hI : ∀ p, p = 1 ∨ (133 ≤ p ∧ p ≤ 1052) → h'.I p = h.I p) (hR : ∀ p, p ≠ 10 → h'.R p = h.R p) : q_ob h' O := by
  obtain ⟨⟨a1, a2, a3, a4⟩, b, ⟨c1, c2, c3, c4⟩, d1, d2, d3⟩ := C
  refine ⟨⟨?_, a2, ?_, a4⟩, fun j hj => ⟨(b j hj).1.cong (fun p h1 h2 => hI p (by omega)) (hR _ (by omega)), (b j hj).2⟩, ⟨?_, c2, c3.cong (fun p h1 h2 => hI p (by omega)) (hR _ (by omega)), c4⟩, ?_, d2, ?_⟩
  · rw [hI 133 (by omega)]; exact a1
  · rw [hI 133 (by omega)]; exact a3
  · rw [hI 1 (by omega)]; exact c1
  · rw [hI 1 (by omega)]; exact d1
  · rw [hI 1052 (by omega)]; exact d3
/-- what a call on the class leaves as it was -/
def q_fr (h h' : q_Hp) : Prop := (∀ p, 1061 ≤ p → h'.I p = h.I p) ∧ (∀ p, p ≠ 10 → h'.R p = h.R p) ∧ h'.J = h.J ∧ h'.E = h.E ∧ h'.n = h.n
theorem q_fr.rf {h : q_Hp} : q_fr h h := ⟨fun _ _ => rfl, fun _ _ => rfl, rfl, rfl, rfl⟩
theorem q_fr.tr {h h1 h2 : q_Hp} (a : q_fr h h1) (b : q_fr h1 h2) : q_fr h h2 := ⟨fun p hp => (b.1 p hp).trans (a.1 p hp), fun p hp => (b.2.1 p hp).trans (a.2.1 p hp), b.2.2.1.trans a.2.2.1, b.2.2.2.1.trans a.2.2.2.1, b.2.2.2.2.trans a.2.2.2.2⟩
theorem q_fr.row {h h1 : q_Hp} (a : q_fr h h1) {p : Nat} {g : Nat → Int32} (hp : p < 1061) : q_fr h (h1.rowI p g) := ⟨fun q hq => (q_rIn _ _ (by omega)).trans (a.1 q hq), a.2⟩
theorem q_fr.set {h h1 : q_Hp} (a : q_fr h h1) {p f : Nat} {v : Int32} (hp : p < 1061) : q_fr h (h1.setI p f v) := ⟨fun q hq => (q_sIn _ _ _ (by omega)).trans (a.1 q hq), a.2⟩
theorem q_Lk.fr {Φ : q_Fx} {h h' : q_Hp} (K : q_Lk Φ h.R h.n) (F : q_fr h h') : q_Lk Φ h'.R h'.n := by
  refine ⟨K.1, F.2.2.2.2.trans K.2.1, fun p f t e => ?_⟩
  by_cases hp : p = 10
  · subst hp
    exact absurd e (by rw [show q_lkT 10 f = none from rfl]; exact fun c => by cases c)
  · rw [F.2.1 p hp]; exact K.2.2 p f t e
/-- the trend: forgotten from d on -/
def q_tf (h h' : q_Hp) (d : Nat) : Prop := h'.I 1054 = h.I 1054 ∧ h'.I 1055 = h.I 1055 ∧ ∀ k, h.I 1053 2 = nI k → k ≤ 200 → h'.I 1053 2 = nI (min k d)
theorem q_tf.of {h h' : q_Hp} (h3 : h'.I 1053 = h.I 1053) (h4 : h'.I 1054 = h.I 1054) (h5 : h'.I 1055 = h.I 1055) : q_tf h h' 200 := ⟨h4, h5, fun k e hk => by rw [h3, e, Nat.min_eq_left hk]⟩
theorem q_tf.rf {h : q_Hp} : q_tf h h 200 := q_tf.of rfl rfl rfl
theorem q_cl'.row {h : q_Hp} {W : q_W} {O : q_O} (C : q_cl' h W O) {a : Nat} {g : Nat → Int32} (ha : 1053 ≤ a) : q_cl' (h.rowI a g) W O := ⟨C.1.row (by omega), C.2.1, C.2.2.cong (fun p hp => q_rIn _ _ (by omega)) fun _ _ => rfl⟩
theorem q_cl'.set {h : q_Hp} {W : q_W} {O : q_O} (C : q_cl' h W O) {a f : Nat} {v : Int32} (ha : 1053 ≤ a) : q_cl' (h.setI a f v) W O := ⟨C.1.set (by omega), C.2.1, C.2.2.cong (fun p hp => q_sIn _ _ _ (by omega)) fun _ _ => rfl⟩
/-- X: O with the State Y kept -/
def q_O.kept (O : q_O) (Y : q_W) : q_O := (((O.nx + 1) % 6, min (O.cn + 1) 6), (fun j => if j = O.nx then Y else O.OB j), (O.hs, O.SW), (O.ll, O.ln))
/-- what keeping the State of now leaves -/
def q_kf (h h' : q_Hp) : Prop := h'.R = h.R ∧ h'.J = h.J ∧ h'.E = h.E ∧ h'.n = h.n ∧ ∀ p, p < 133 ∨ 921 ≤ p → h'.I p = h.I p
theorem q_kf.fr {h h' : q_Hp} (F : q_kf h h') : q_fr h h' := ⟨fun p hp => F.2.2.2.2 p (by omega), fun p _ => congrFun F.1 p, F.2.1, F.2.2.1, F.2.2.2.1⟩
theorem q_kf.tf {h h' : q_Hp} (F : q_kf h h') : q_tf h h' 200 := q_tf.of (F.2.2.2.2 _ (by omega)) (F.2.2.2.2 _ (by omega)) (F.2.2.2.2 _ (by omega))
theorem q_kept {h h1 : q_Hp} {W : q_W} {O : q_O} (C : q_cl' h W O) (c : q_cpd h h1 (135 + 131 * O.nx) W (O.OB O.nx)) : ∃ Y, q_eqv W Y ∧ q_ok0 Y ∧ q_cl' ((h1.setI 133 1 (nI ((O.nx + 1) % 6))).setI 133 2 (nI (min (O.cn + 1) 6))) W (O.kept Y) ∧ q_kf h ((h1.setI 133 1 (nI ((O.nx + 1) % 6))).setI 133 2 (nI (min (O.cn + 1) 6))) := by
  obtain ⟨c1, c2, c3, c4, c5, Y, y1, y2, y3⟩ := c
  obtain ⟨V, o, ⟨a1, a2, a3, a4⟩, b, ⟨s1, s2, s3, s4⟩, d1, d2, d3⟩ := C
  have g : ∀ p, p ≠ 133 → (p < 135 + 131 * O.nx ∨ 135 + 131 * O.nx + 131 ≤ p) → ((h1.setI 133 1 (nI ((O.nx + 1) % 6))).setI 133 2 (nI (min (O.cn + 1) 6))).I p = h.I p := fun p h1 h2 => by
    rw [q_sIn _ _ _ h1, q_sIn _ _ _ h1]; exact c5 p h2
  refine ⟨Y, y2, y3, ⟨?_, o, ⟨?_, ?_, ?_, ?_⟩, fun j hj => ?_, ⟨?_, s2, ?_, s4⟩, ?_, d2, ?_⟩, c1, c2, c3, c4, fun p hp => g p (by omega) (by omega)⟩
  · exact V.cong (fun p h1 h2 => g p (by omega) (by omega)) (congrFun c1 _)
  · rw [q_sI, va_un _ _ (by decide), q_sI, va_us]; rfl
  · exact Nat.mod_lt _ (by decide)
  · rw [q_sI, va_us]; rfl
  · exact Nat.min_le_right _ _
  · by_cases e : j = O.nx
    · subst e
      show q_vB _ _ _ (if _ then _ else _) ∧ q_ok0 (if _ then _ else _)
      rw [if_pos rfl]
      refine ⟨y1.cong (fun p h1 h2 => ?_) rfl, y3⟩
      rw [q_sIn _ _ _ (by omega), q_sIn _ _ _ (by omega)]
    · show q_vB _ _ _ (if _ then _ else _) ∧ q_ok0 (if _ then _ else _)
      rw [if_neg e]
      exact ⟨(b j hj).1.cong (fun p h1 h2 => g p (by omega) (by omega)) (congrFun c1 _), (b j hj).2⟩
  · rw [g 1 (by omega) (by omega)]; exact s1
  · exact s3.cong (fun p h1 h2 => g p (by omega) (by omega)) (congrFun c1 _)
  · rw [g 1 (by omega) (by omega)]; exact d1
  · rw [g 1052 (by omega) (by omega)]; exact d3
/-! the order -/
def q_Hp.rowR (h : q_Hp) (a : Nat) (g : Nat → Option Nat) : q_Hp := (h.I, q_row h.R a g, h.J, h.E, h.n)
theorem q_setR_row (h : q_Hp) (a f : Nat) (v : Option Nat) : h.setR a f v = h.rowR a (va_up (h.R a) f v) := rfl
theorem q_rrR (h : q_Hp) (a : Nat) (f g : Nat → Option Nat) : (h.rowR a f).rowR a g = h.rowR a g := by
  refine q_hpE rfl (funext fun b => ?_) rfl rfl rfl
  show q_row (q_row h.R a f) a g b = q_row h.R a g b
  unfold q_row
  split <;> rfl
theorem q_rR (h : q_Hp) (a : Nat) (g : Nat → Option Nat) : (h.rowR a g).R a = g := q_row_same _ _ _
theorem q_rRn (h : q_Hp) {a b : Nat} (g : Nat → Option Nat) (hn : b ≠ a) : (h.rowR a g).R b = h.R b := q_row_ne _ _ hn
theorem q_rsetR (h : q_Hp) (a k : Nat) (g : Nat → Option Nat) (v : Option Nat) : (h.rowR a g).setR a k v = h.rowR a (va_up g k v) := by
  rw [q_setR_row, q_rrR, q_rR]
theorem q_ridR (h : q_Hp) (a : Nat) : h.rowR a (h.R a) = h := by
  refine q_hpE rfl (funext fun b => ?_) rfl rfl rfl
  show q_row h.R a (h.R a) b = h.R b
  unfold q_row
  split
  · rename_i e; rw [e]
  · rfl
/-- the row of the order g -/
def q_or (h : q_Hp) (g : Nat → Nat) : Nat → Option Nat := fun k => if k < 40 then some (11 + 3 * g k) else h.R 10 k
theorem q_or_in (h : q_Hp) (g : Nat → Nat) {k : Nat} (hk : k < 40) : q_or h g k = some (11 + 3 * g k) := if_pos hk
theorem q_or_up (h : q_Hp) (g : Nat → Nat) (k x : Nat) (hk : k < 40) : va_up (q_or h g) k (some (11 + 3 * x)) = q_or h (va_up g k x) := by
  funext j
  unfold va_up q_or
  dsimp only
  (repeat' split) <;> first | rfl | (exfalso; omega)
theorem q_or_id {h : q_Hp} {W : q_W} (V : q_vw h W) : h.rowR 10 (q_or h W.σ) = h := by
  have : q_or h W.σ = h.R 10 := by
    funext k
    unfold q_or
    split
    · exact (V.sg (by assumption)).symm
    · rfl
  rw [this, q_ridR]
def q_W.sσ (W : q_W) (g : Nat → Nat) : q_W := (W.t, (W.n, W.d, W.v), (W.bd, W.wt), (W.c, W.nx, g, W.id, W.dy, W.pn, W.mn, W.it), (W.pe, W.pf, W.pc, W.tg))
theorem q_vw.ord {h : q_Hp} {W : q_W} (V : q_vw h W) {g : Nat → Nat} (hg : ∀ k, k < 40 → g k < 40) : q_vw (h.rowR 10 (q_or h g)) (W.sσ g) := by
  obtain ⟨h1, h2, h3, h4, h5, h6, h7, h8, h9, h10, h11, h12, h13, h14, h15, h16, h17, h18, h19, h20⟩ := V
  exact ⟨h1, h2, h3, h4, h5, h6, h7, h8, h9, h10, h11, fun i hi => ⟨(congrFun (q_rR h 10 (q_or h g)) i).trans (q_or_in h g hi), hg i hi⟩, h13, h14, h15, h16, h17, h18, h19, h20⟩
theorem q_Lk.ord {Φ : q_Fx} {h : q_Hp} (K : q_Lk Φ h.R h.n) {g : Nat → Option Nat} : q_Lk Φ (h.rowR 10 g).R (h.rowR 10 g).n := K.fr ⟨fun _ _ => rfl, fun _ hp => q_rRn _ _ hp, rfl, rfl, rfl⟩
abbrev q_bf (W : q_W) (s r : Nat) : Prop := W.dy s < W.dy r ∨ (W.dy s = W.dy r ∧ W.id s < W.id r)
theorem q_bf_as {W : q_W} {s r : Nat} (h : q_bf W s r) (h2 : q_bf W r s) : False := by
  unfold q_bf at h h2
  simp only [Int32.lt_iff_toInt_lt] at h h2
  omega
/-- f with place p taken to r -/
def q_mv (f : Nat → Nat) (p r : Nat) : Nat → Nat := fun k => if k = r then f p else if r < k ∧ k ≤ p then f (k - 1) else if p ≤ k ∧ k < r then f (k + 1) else f k
def q_m3 (f : Nat → Nat) (p q r : Nat) : Nat → Nat := fun k => if q < k ∧ k ≤ p then f (k - 1) else if p ≤ k ∧ k < r then f (k + 1) else f k
theorem q_m3_0 (f : Nat → Nat) (p : Nat) : q_m3 f p p p = f := by
  funext k; unfold q_m3; rw [if_neg (by omega), if_neg (by omega)]
theorem q_m3_dn (f : Nat → Nat) {p q : Nat} (hq : q ≤ p) (h0 : 0 < q) : va_up (q_m3 f p q p) q (f (q - 1)) = q_m3 f p (q - 1) p := by
  funext k; unfold va_up q_m3
  (repeat' split) <;> first | rfl | (exfalso; omega) | exact congrArg f (by omega)
theorem q_m3_r (f : Nat → Nat) {p q : Nat} (hq : q ≤ p) : q_m3 f p q p = q_m3 f p q q := by
  funext k; unfold q_m3
  (repeat' split) <;> first | rfl | (exfalso; omega) | exact congrArg f (by omega)
theorem q_m3_up (f : Nat → Nat) {p r : Nat} (hr : p ≤ r) : va_up (q_m3 f p p r) r (f (r + 1)) = q_m3 f p p (r + 1) := by
  funext k; unfold va_up q_m3
  (repeat' split) <;> first | rfl | (exfalso; omega) | exact congrArg f (by omega)
theorem q_m3_mv (f : Nat → Nat) {p q r : Nat} (h : (r = q ∧ q < p) ∨ (q = p ∧ p ≤ r)) : va_up (q_m3 f p q r) r (f p) = q_mv f p r := by
  funext k; unfold va_up q_m3 q_mv
  (repeat' split) <;> first | rfl | (exfalso; omega) | exact congrArg f (by omega)
theorem q_m3_lt {f : Nat → Nat} (hf : ∀ k, k < 40 → f k < 40) {p q r : Nat} (hr : r < 40) : ∀ k, k < 40 → q_m3 f p q r k < 40 := fun k hk => by
  unfold q_m3
  split
  · exact hf _ (by omega)
  split
  · exact hf _ (by omega)
  · exact hf _ hk
theorem q_mv_lt {f : Nat → Nat} (hf : ∀ k, k < 40 → f k < 40) {p r : Nat} (hp : p < 40) (hr : r < 40) : ∀ k, k < 40 → q_mv f p r k < 40 := fun k hk => by
  unfold q_mv
  split
  · exact hf _ hp
  split
  · exact hf _ (by omega)
  split
  · exact hf _ (by omega)
  · exact hf _ hk
theorem q_lk134 : ∀ {j : Nat}, j < 6 → q_lkT 134 j = some (135 + 131 * j) := by decide +kernel
theorem g_X1_keep {Φ : q_Fx} {h : q_Hp} (K : q_Lk Φ h.R h.n) {W : q_W} {O : q_O} (C : q_cl' h W O) : q_Ct Φ false yX1_keep cX1_keep mX1_keep [.ref 133, .ref 2] h (q_ex (fun v h' => v = none ∧ ∃ Y, q_eqv W Y ∧ q_ok0 Y ∧ q_cl' h' W (O.kept Y) ∧ q_kf h h')) := by
  refine q_enter K.st rfl rfl (by decide) rfl (Nat.le_of_ble_eq_true rfl) (L := [_, _]) rfl ?_
  have hnx := C.2.2.1.2.1
  have hcn := C.2.2.1.2.2.2
  refine q_aload_n dX1_keep_0 rfl ?_
  refine fRX1_11 (o := some 134) dX1_keep_1 rfl (by decide) (K.le (by decide)) (K.lk rfl) ?_
  refine q_rfS ?_
  refine q_aload_n dX1_keep_4 rfl ?_
  refine fIX1_17 dX1_keep_5 rfl (by decide) (K.le (by decide)) ?_
  refine q_tv (show _ = (nI (O.nx)) from C.2.2.1.1) ?_
  refine q_aaldN (len := 6) (o := some (135 + 131 * O.nx)) (by decide) (by decide) dX1_keep_8 (by decide) (K.le (by decide)) rfl (by omega) (by decide) (K.lk (q_lk134 hnx)) ?_
  refine q_rfS ?_
  refine q_aload_n dX1_keep_9 rfl ?_
  refine q_vR (kc := 0) (ks := 0) (g_X5_copyFrom (h := h) K (A := 2) (B := 135 + 131 * O.nx) (Or.inl rfl) (Or.inr (Or.inr ⟨_, hnx, rfl⟩)) (by unfold q_ap; omega) C.1 (C.2.2.2.1 _ hnx).1 C.2.1 (C.2.2.2.1 _ hnx).2) wX5_copyFrom kX1_25 iX5_copyFrom eX5_copyFrom (q_tb (Or.inr (Or.inr ⟨_, hnx, rfl⟩)) 0 5 (by decide) rfl) rfl (by omega) (K.le (by omega)) (by decide) rfl rfl (Nat.le_of_ble_eq_true rfl) dX1_keep_10 rfl rfl ?_
  rintro v h1 ⟨rfl, cpd⟩
  have K : q_Lk Φ h1.R h1.n := by rw [cpd.1, cpd.2.2.2.1]; exact K
  refine q_aload_n dX1_keep_13 rfl ?_
  refine q_aload_n dX1_keep_14 rfl ?_
  refine fIX1_17 dX1_keep_15 rfl (by decide) (K.le (by decide)) ?_
  refine q_tv (show _ = (nI (O.nx)) from ((congrFun (cpd.2.2.2.2.1 _ (by omega)) _).trans C.2.2.1.1)) ?_
  refine q_iconst (v := nI 1) dX1_keep_18 (by decide) ?_
  refine q_iaddN dX1_keep_19 ?_
  refine q_bipush (v := nI 6) dX1_keep_20 (by decide) ?_
  refine q_iremN (by omega) (by omega) (by omega) dX1_keep_22 ?_
  refine pIX1_17 dX1_keep_23 rfl (by decide) (K.le (by decide)) ?_
  refine q_aload_n dX1_keep_26 rfl ?_
  refine q_aload_n dX1_keep_27 rfl ?_
  refine fIX1_21 dX1_keep_28 rfl (by decide) (K.le (by decide)) ?_
  refine q_tv (show _ = (nI (O.cn)) from (((congrFun (q_sI _ _ _ _) _).trans (va_un _ _ (by omega))).trans ((congrFun (cpd.2.2.2.2.1 _ (by omega)) _).trans C.2.2.1.2.2.1))) ?_
  refine q_iconst (v := nI 1) dX1_keep_31 (by decide) ?_
  refine q_iaddN dX1_keep_32 ?_
  refine q_bipush (v := nI 6) dX1_keep_33 (by decide) ?_
  refine q_min kX1_29 dX1_keep_35 (by decide) (by decide) ?_
  refine q_tv (q_minN (by omega) (by omega)) ?_
  refine pIX1_21 dX1_keep_38 rfl (by decide) (K.le (by decide)) ?_
  refine q_vret dX1_keep_41 rfl (Or.inl rfl) ?_
  obtain ⟨Y, y1, y2, y3, y4⟩ := q_kept C cpd
  exact ⟨_, rfl, rfl, Y, y1, y2, y3, y4⟩
theorem g_X1_forget {Φ : q_Fx} {h : q_Hp} (K : q_Lk Φ h.R h.n)  : q_Ct Φ false yX1_forget cX1_forget mX1_forget [.ref 133] h (q_is none (h.setI 133 2 (nI 0))) := by
  refine q_enter K.st rfl rfl (by decide) rfl (Nat.le_of_ble_eq_true rfl) (L := [_]) rfl ?_
  refine q_aload_n dX1_forget_0 rfl ?_
  refine q_iconst (v := nI 0) dX1_forget_1 (by decide) ?_
  refine pIX1_21 dX1_forget_2 rfl (by decide) (K.le (by decide)) ?_
  refine q_vret dX1_forget_5 rfl (Or.inl rfl) ?_
  exact ⟨rfl, rfl⟩
theorem g_X4_settle {Φ : q_Fx} {h : q_Hp} (K : q_Lk Φ h.R h.n) {W : q_W} (V : q_vw h W) {pos : Nat} (hpos : pos < W.c) : q_Ct Φ false yX4_settle cX4_settle mX4_settle [.ref 9, .int (nI (pos))] h (q_ex (fun v h' => v = none ∧ ∃ r, r < W.c ∧ h' = h.rowR 10 (q_or h (q_mv W.σ pos r)) ∧ (∀ k, r ≤ k → k < pos → q_bf W (W.σ pos) (W.σ k)) ∧ (∀ k, pos < k → k ≤ r → q_bf W (W.σ k) (W.σ pos)) ∧ (r ≤ pos → r = 0 ∨ ¬ q_bf W (W.σ pos) (W.σ (r - 1))) ∧ (pos ≤ r → r + 1 = W.c ∨ ¬ q_bf W (W.σ (r + 1)) (W.σ pos)))) := by
  refine q_enter K.st rfl rfl (by decide) rfl (Nat.le_of_ble_eq_true rfl) (L := [_, _, none, none]) rfl ?_
  have hc := V.c40
  have K0 := K
  refine q_aload_n dX4_settle_0 rfl ?_
  refine fRX4_11 (o := some 10) dX4_settle_1 rfl (by decide) (K.le (by decide)) (K.lk rfl) ?_
  refine q_rfS ?_
  refine q_iload_n dX4_settle_4 rfl ?_
  refine q_aaldN (len := 40) (o := some (11 + 3 * W.σ pos)) (by decide) (by decide) dX4_settle_5 (by decide) (K.le (by decide)) rfl (by omega) (by decide) (V.sg (by omega)) ?_
  refine q_rfS ?_
  refine q_astore_n (L' := [_, _, _, _]) dX4_settle_6 rfl (by decide) rfl ?_
  refine q_iload_n dX4_settle_7 rfl ?_
  refine q_istore_n (L' := [_, _, _, _]) dX4_settle_8 rfl (by decide) rfl ?_
  refine q_loop (ι := Nat) (μ := fun q => q) (P := fun q => q ≤ pos ∧ ∀ k, q ≤ k → k < pos → q_bf W (W.σ pos) (W.σ k)) (Lf := fun q => [some (.ref 9), some (.int (nI (pos))), some (.ref (11 + 3 * W.σ pos)), some (.int (nI (q)))]) (hf := fun q => (h.rowR 10 (q_or h (q_m3 W.σ pos q pos)))) (fun q hi9 ih9 => ?_) pos (⟨Nat.le_refl _, fun k h1 h2 => absurd h2 (by omega)⟩) (q_sub_s rfl (q_sub_i rfl (q_sub_s rfl (q_sub_i rfl q_sub_0)))) (by rw [q_m3_0]; exact (q_or_id V).symm)
  skip
  obtain ⟨hq, hbf⟩ := hi9
  have K : q_Lk Φ (h.rowR 10 (q_or h (q_m3 W.σ pos q pos))).R (h.rowR 10 (q_or h (q_m3 W.σ pos q pos))).n := K0.ord
  refine q_iload_n dX4_settle_9 rfl ?_
  refine q_if_leN (by omega) (tgt := 48) dX4_settle_10 rfl (fun c1 => ?_) (fun c2 => ?_)
  · refine q_loop (ι := Nat) (μ := fun r => W.c - r) (P := fun r => ((r = q ∧ q < pos) ∨ (q = pos ∧ pos ≤ r ∧ ∀ k, pos < k → k ≤ r → q_bf W (W.σ k) (W.σ pos))) ∧ r < W.c) (Lf := fun r => [some (.ref 9), some (.int (nI (pos))), some (.ref (11 + 3 * W.σ pos)), some (.int (nI (r)))]) (hf := fun r => (h.rowR 10 (q_or h (q_m3 W.σ pos q r)))) (fun r hi48 ih48 => ?_) q (⟨if e : q < pos then Or.inl ⟨rfl, e⟩ else Or.inr ⟨by omega, by omega, fun k h1 h2 => absurd h1 (by omega)⟩, by omega⟩) (q_sub_s rfl (q_sub_i rfl (q_sub_s rfl (q_sub_i rfl q_sub_0)))) (by rw [q_m3_r _ hq])
    skip
    obtain ⟨hr, hrc⟩ := hi48
    have K : q_Lk Φ (h.rowR 10 (q_or h (q_m3 W.σ pos q r))).R (h.rowR 10 (q_or h (q_m3 W.σ pos q r))).n := K0.ord
    refine q_iload_n dX4_settle_48 rfl ?_
    refine q_aload_n dX4_settle_49 rfl ?_
    refine fIX4_17 dX4_settle_50 rfl (by decide) (K.le (by decide)) ?_
    refine q_tv (show _ = (nI (W.c)) from V.c) ?_
    refine q_iconst (v := nI 1) dX4_settle_53 (by decide) ?_
    refine q_isubN (by omega) dX4_settle_54 ?_
    refine q_icmp_geN (by omega) (by omega) (tgt := 93) dX4_settle_55 rfl (fun c3 => ?_) (fun c4 => ?_)
    · refine q_aload_n dX4_settle_93 rfl ?_
      refine fRX4_11 (o := some 10) dX4_settle_94 rfl (by decide) (K.le (by decide)) (K.lk rfl) ?_
      refine q_rfS ?_
      refine q_iload_n dX4_settle_97 rfl ?_
      refine q_aload_n dX4_settle_98 rfl ?_
      refine q_aastN (len := 40) (t0 := 2) (r := (RX3, TX3, 5)) (by decide) (by decide) rfl (q_ts (V.s40 (by omega))) rfl dX4_settle_99 (by decide) (K.le (by decide)) (by omega) (K.le (q_bs (V.s40 (by omega)))) rfl (by omega) (by decide) ?_
      refine q_vret dX4_settle_100 rfl (Or.inl rfl) ?_
      have hr0 := hr
      exact ⟨_, rfl, rfl, r, hrc, by rw [q_rsetR, q_or_up _ _ _ _ (by omega), q_m3_mv _ (by omega)], fun k h1 h2 => hbf k (by omega) h2, fun k h1 h2 => hr.elim (fun a => absurd h1 (by omega)) (fun a => a.2.2 k h1 h2), fun h9 => by have e : r = q := (by omega); rw [e]; first | exact Or.inl (by omega) | exact Or.inr (by assumption), fun h9 => by first | exact Or.inl (by omega) | (refine Or.inr ?_; rw [← show q_m3 W.σ pos q r (r + 1) = W.σ (r + 1) by unfold q_m3; rw [if_neg (by omega), if_neg (by omega)]]; assumption)⟩
    · refine q_aload_n dX4_settle_58 rfl ?_
      refine fRX4_11 (o := some 10) dX4_settle_59 rfl (by decide) (K.le (by decide)) (K.lk rfl) ?_
      refine q_rfS ?_
      refine q_iload_n dX4_settle_62 rfl ?_
      refine q_iconst (v := nI 1) dX4_settle_63 (by decide) ?_
      refine q_iaddN dX4_settle_64 ?_
      refine q_aaldN (len := 40) (o := some (11 + 3 * q_m3 W.σ pos q r (r + 1))) (by decide) (by decide) dX4_settle_65 (by decide) (K.le (by decide)) rfl (by omega) (by decide) ((congrFun (q_rR _ _ _) _).trans (q_or_in _ _ (by omega))) ?_
      refine q_rfS ?_
      refine q_aload_n dX4_settle_66 rfl ?_
      refine q_vD (kc := 0) (ks := 0) (g_X3_comesBefore (h := (h.rowR 10 (q_or h (q_m3 W.σ pos q r)))) K (V.ord (g := (q_m3 W.σ pos q r)) (q_m3_lt (fun k hk => V.s40 hk) (by omega))) (q_m3_lt (fun k hk => V.s40 hk) (by omega) _ (by omega)) (V.s40 (i := pos) (by omega))) wX3_comesBefore kX4_46 iX3_comesBefore eX3_comesBefore (q_ts (q_m3_lt (fun k hk => V.s40 hk) (by omega) _ (by omega))) rfl (by omega) (K.le (q_bs (q_m3_lt (fun k hk => V.s40 hk) (by omega) _ (by omega)))) (by decide) rfl rfl (Nat.le_of_ble_eq_true rfl) dX4_settle_67 rfl rfl ?_
      refine q_spl (fun c5 => ?_) (fun c6 => ?_)
      · refine q_if_eq (tgt := 93) dX4_settle_70 rfl (fun c => absurd c (by decide)) (fun _ => ?_)
        have hbr : q_bf W (q_m3 W.σ pos q r (r + 1)) (W.σ pos) := by assumption
        rcases hr with ⟨e1, e2⟩ | ⟨e1, hpr, hr2⟩
        · exact (q_bf_as hbr (by rw [show q_m3 W.σ pos q r (r + 1) = W.σ r by unfold q_m3; rw [if_pos (by omega), Nat.add_sub_cancel]]; exact hbf r (by omega) (by omega))).elim
        rw [show q_m3 W.σ pos q r (r + 1) = W.σ (r + 1) by unfold q_m3; rw [if_neg (by omega), if_neg (by omega)]] at hbr
        refine q_aload_n dX4_settle_73 rfl ?_
        refine fRX4_11 (o := some 10) dX4_settle_74 rfl (by decide) (K.le (by decide)) (K.lk rfl) ?_
        refine q_rfS ?_
        refine q_iload_n dX4_settle_77 rfl ?_
        refine q_aload_n dX4_settle_78 rfl ?_
        refine fRX4_11 (o := some 10) dX4_settle_79 rfl (by decide) (K.le (by decide)) (K.lk rfl) ?_
        refine q_rfS ?_
        refine q_iload_n dX4_settle_82 rfl ?_
        refine q_iconst (v := nI 1) dX4_settle_83 (by decide) ?_
        refine q_iaddN dX4_settle_84 ?_
        refine q_aaldN (len := 40) (o := some (11 + 3 * W.σ (r + 1))) (by decide) (by decide) dX4_settle_85 (by decide) (K.le (by decide)) rfl (by omega) (by decide) ((congrFun (q_rR _ _ _) _).trans ((q_or_in _ _ (by omega)).trans (congrArg (fun z => some (11 + 3 * z)) (show q_m3 W.σ pos q r (r + 1) = W.σ (r + 1) by unfold q_m3; rw [if_neg (by omega), if_neg (by omega)])))) ?_
        refine q_rfS ?_
        refine q_aastN (len := 40) (t0 := 2) (r := (RX3, TX3, 5)) (by decide) (by decide) rfl (q_ts (V.s40 (by omega))) rfl dX4_settle_86 (by decide) (K.le (by decide)) (by omega) (K.le (q_bs (V.s40 (by omega)))) rfl (by omega) (by decide) ?_
        refine q_iincN (n := 1) (L' := [_, _, _, _]) (by decide) dX4_settle_87 rfl rfl (by decide) rfl ?_
        refine q_goto (tgt := 48) dX4_settle_90 rfl ?_
        exact q_to (ih48 (r + 1) (⟨Or.inr ⟨e1, by omega, fun k h1 h2 => if e : k = r + 1 then (by rw [e]; assumption) else hr2 k h1 (by omega)⟩, by omega⟩) (by omega)) (q_sub_s rfl (q_sub_i rfl (q_sub_s rfl (q_sub_i rfl q_sub_0)))) (by rw [q_rsetR, q_or_up _ _ _ _ (by omega), e1, q_m3_up _ hpr])
      · refine q_if_eq (tgt := 93) dX4_settle_70 rfl (fun _ => ?_) (fun c => absurd (by decide) c)
        refine q_aload_n dX4_settle_93 rfl ?_
        refine fRX4_11 (o := some 10) dX4_settle_94 rfl (by decide) (K.le (by decide)) (K.lk rfl) ?_
        refine q_rfS ?_
        refine q_iload_n dX4_settle_97 rfl ?_
        refine q_aload_n dX4_settle_98 rfl ?_
        refine q_aastN (len := 40) (t0 := 2) (r := (RX3, TX3, 5)) (by decide) (by decide) rfl (q_ts (V.s40 (by omega))) rfl dX4_settle_99 (by decide) (K.le (by decide)) (by omega) (K.le (q_bs (V.s40 (by omega)))) rfl (by omega) (by decide) ?_
        refine q_vret dX4_settle_100 rfl (Or.inl rfl) ?_
        have hr0 := hr
        exact ⟨_, rfl, rfl, r, hrc, by rw [q_rsetR, q_or_up _ _ _ _ (by omega), q_m3_mv _ (by omega)], fun k h1 h2 => hbf k (by omega) h2, fun k h1 h2 => hr.elim (fun a => absurd h1 (by omega)) (fun a => a.2.2 k h1 h2), fun h9 => by have e : r = q := (by omega); rw [e]; first | exact Or.inl (by omega) | exact Or.inr (by assumption), fun h9 => by first | exact Or.inl (by omega) | (refine Or.inr ?_; rw [← show q_m3 W.σ pos q r (r + 1) = W.σ (r + 1) by unfold q_m3; rw [if_neg (by omega), if_neg (by omega)]]; assumption)⟩
  · refine q_aload_n dX4_settle_13 rfl ?_
    refine q_aload_n dX4_settle_14 rfl ?_
    refine fRX4_11 (o := some 10) dX4_settle_15 rfl (by decide) (K.le (by decide)) (K.lk rfl) ?_
    refine q_rfS ?_
    refine q_iload_n dX4_settle_18 rfl ?_
    refine q_iconst (v := nI 1) dX4_settle_19 (by decide) ?_
    refine q_isubN (by omega) dX4_settle_20 ?_
    refine q_aaldN (len := 40) (o := some (11 + 3 * W.σ (q - 1))) (by decide) (by decide) dX4_settle_21 (by decide) (K.le (by decide)) rfl (by omega) (by decide) ((congrFun (q_rR _ _ _) _).trans ((q_or_in _ _ (by omega)).trans (congrArg (fun z => some (11 + 3 * z)) (show q_m3 W.σ pos q pos (q - 1) = W.σ (q - 1) by unfold q_m3; rw [if_neg (by omega), if_neg (by omega)])))) ?_
    refine q_rfS ?_
    refine q_vD (kc := 0) (ks := 0) (g_X3_comesBefore (h := (h.rowR 10 (q_or h (q_m3 W.σ pos q pos)))) K (V.ord (g := (q_m3 W.σ pos q pos)) (q_m3_lt (fun k hk => V.s40 hk) (by omega))) (V.s40 (i := pos) (by omega)) (V.s40 (i := q - 1) (by omega))) wX3_comesBefore kX4_46 iX3_comesBefore eX3_comesBefore (q_ts (V.s40 (by omega))) rfl (by omega) (K.le (q_bs (V.s40 (by omega)))) (by decide) rfl rfl (Nat.le_of_ble_eq_true rfl) dX4_settle_22 rfl rfl ?_
    refine q_spl (fun c11 => ?_) (fun c12 => ?_)
    · refine q_if_eq (tgt := 48) dX4_settle_25 rfl (fun c => absurd c (by decide)) (fun _ => ?_)
      refine q_aload_n dX4_settle_28 rfl ?_
      refine fRX4_11 (o := some 10) dX4_settle_29 rfl (by decide) (K.le (by decide)) (K.lk rfl) ?_
      refine q_rfS ?_
      refine q_iload_n dX4_settle_32 rfl ?_
      refine q_aload_n dX4_settle_33 rfl ?_
      refine fRX4_11 (o := some 10) dX4_settle_34 rfl (by decide) (K.le (by decide)) (K.lk rfl) ?_
      refine q_rfS ?_
      refine q_iload_n dX4_settle_37 rfl ?_
      refine q_iconst (v := nI 1) dX4_settle_38 (by decide) ?_
      refine q_isubN (by omega) dX4_settle_39 ?_
      refine q_aaldN (len := 40) (o := some (11 + 3 * W.σ (q - 1))) (by decide) (by decide) dX4_settle_40 (by decide) (K.le (by decide)) rfl (by omega) (by decide) ((congrFun (q_rR _ _ _) _).trans ((q_or_in _ _ (by omega)).trans (congrArg (fun z => some (11 + 3 * z)) (show q_m3 W.σ pos q pos (q - 1) = W.σ (q - 1) by unfold q_m3; rw [if_neg (by omega), if_neg (by omega)])))) ?_
      refine q_rfS ?_
      refine q_aastN (len := 40) (t0 := 2) (r := (RX3, TX3, 5)) (by decide) (by decide) rfl (q_ts (V.s40 (by omega))) rfl dX4_settle_41 (by decide) (K.le (by decide)) (by omega) (K.le (q_bs (V.s40 (by omega)))) rfl (by omega) (by decide) ?_
      refine q_iincM (L' := [_, _, _, _]) (by omega) (by decide) dX4_settle_42 rfl rfl (by decide) rfl ?_
      refine q_goto (tgt := 9) dX4_settle_45 rfl ?_
      exact q_to (ih9 (q - 1) (⟨by omega, fun k h1 h2 => if e : k = q - 1 then (by rw [e]; assumption) else hbf k (by omega) h2⟩) (by omega)) (q_sub_s rfl (q_sub_i rfl (q_sub_s rfl (q_sub_i rfl q_sub_0)))) (by rw [q_rsetR, q_or_up _ _ _ _ (by omega), q_m3_dn _ hq (by omega)])
    · refine q_if_eq (tgt := 48) dX4_settle_25 rfl (fun _ => ?_) (fun c => absurd (by decide) c)
      refine q_loop (ι := Nat) (μ := fun r => W.c - r) (P := fun r => ((r = q ∧ q < pos) ∨ (q = pos ∧ pos ≤ r ∧ ∀ k, pos < k → k ≤ r → q_bf W (W.σ k) (W.σ pos))) ∧ r < W.c) (Lf := fun r => [some (.ref 9), some (.int (nI (pos))), some (.ref (11 + 3 * W.σ pos)), some (.int (nI (r)))]) (hf := fun r => (h.rowR 10 (q_or h (q_m3 W.σ pos q r)))) (fun r hi48 ih48 => ?_) q (⟨if e : q < pos then Or.inl ⟨rfl, e⟩ else Or.inr ⟨by omega, by omega, fun k h1 h2 => absurd h1 (by omega)⟩, by omega⟩) (q_sub_s rfl (q_sub_i rfl (q_sub_s rfl (q_sub_i rfl q_sub_0)))) (by rw [q_m3_r _ hq])
      skip
      obtain ⟨hr, hrc⟩ := hi48
      have K : q_Lk Φ (h.rowR 10 (q_or h (q_m3 W.σ pos q r))).R (h.rowR 10 (q_or h (q_m3 W.σ pos q r))).n := K0.ord
      refine q_iload_n dX4_settle_48 rfl ?_
      refine q_aload_n dX4_settle_49 rfl ?_
      refine fIX4_17 dX4_settle_50 rfl (by decide) (K.le (by decide)) ?_
      refine q_tv (show _ = (nI (W.c)) from V.c) ?_
      refine q_iconst (v := nI 1) dX4_settle_53 (by decide) ?_
      refine q_isubN (by omega) dX4_settle_54 ?_
      refine q_icmp_geN (by omega) (by omega) (tgt := 93) dX4_settle_55 rfl (fun c17 => ?_) (fun c18 => ?_)
      · refine q_aload_n dX4_settle_93 rfl ?_
        refine fRX4_11 (o := some 10) dX4_settle_94 rfl (by decide) (K.le (by decide)) (K.lk rfl) ?_
        refine q_rfS ?_
        refine q_iload_n dX4_settle_97 rfl ?_
        refine q_aload_n dX4_settle_98 rfl ?_
        refine q_aastN (len := 40) (t0 := 2) (r := (RX3, TX3, 5)) (by decide) (by decide) rfl (q_ts (V.s40 (by omega))) rfl dX4_settle_99 (by decide) (K.le (by decide)) (by omega) (K.le (q_bs (V.s40 (by omega)))) rfl (by omega) (by decide) ?_
        refine q_vret dX4_settle_100 rfl (Or.inl rfl) ?_
        have hr0 := hr
        exact ⟨_, rfl, rfl, r, hrc, by rw [q_rsetR, q_or_up _ _ _ _ (by omega), q_m3_mv _ (by omega)], fun k h1 h2 => hbf k (by omega) h2, fun k h1 h2 => hr.elim (fun a => absurd h1 (by omega)) (fun a => a.2.2 k h1 h2), fun h9 => by have e : r = q := (by omega); rw [e]; first | exact Or.inl (by omega) | exact Or.inr (by assumption), fun h9 => by first | exact Or.inl (by omega) | (refine Or.inr ?_; rw [← show q_m3 W.σ pos q r (r + 1) = W.σ (r + 1) by unfold q_m3; rw [if_neg (by omega), if_neg (by omega)]]; assumption)⟩
      · refine q_aload_n dX4_settle_58 rfl ?_
        refine fRX4_11 (o := some 10) dX4_settle_59 rfl (by decide) (K.le (by decide)) (K.lk rfl) ?_
        refine q_rfS ?_
        refine q_iload_n dX4_settle_62 rfl ?_
        refine q_iconst (v := nI 1) dX4_settle_63 (by decide) ?_
        refine q_iaddN dX4_settle_64 ?_
        refine q_aaldN (len := 40) (o := some (11 + 3 * q_m3 W.σ pos q r (r + 1))) (by decide) (by decide) dX4_settle_65 (by decide) (K.le (by decide)) rfl (by omega) (by decide) ((congrFun (q_rR _ _ _) _).trans (q_or_in _ _ (by omega))) ?_
        refine q_rfS ?_
        refine q_aload_n dX4_settle_66 rfl ?_
        refine q_vD (kc := 0) (ks := 0) (g_X3_comesBefore (h := (h.rowR 10 (q_or h (q_m3 W.σ pos q r)))) K (V.ord (g := (q_m3 W.σ pos q r)) (q_m3_lt (fun k hk => V.s40 hk) (by omega))) (q_m3_lt (fun k hk => V.s40 hk) (by omega) _ (by omega)) (V.s40 (i := pos) (by omega))) wX3_comesBefore kX4_46 iX3_comesBefore eX3_comesBefore (q_ts (q_m3_lt (fun k hk => V.s40 hk) (by omega) _ (by omega))) rfl (by omega) (K.le (q_bs (q_m3_lt (fun k hk => V.s40 hk) (by omega) _ (by omega)))) (by decide) rfl rfl (Nat.le_of_ble_eq_true rfl) dX4_settle_67 rfl rfl ?_
        refine q_spl (fun c19 => ?_) (fun c20 => ?_)
        · refine q_if_eq (tgt := 93) dX4_settle_70 rfl (fun c => absurd c (by decide)) (fun _ => ?_)
          have hbr : q_bf W (q_m3 W.σ pos q r (r + 1)) (W.σ pos) := by assumption
          rcases hr with ⟨e1, e2⟩ | ⟨e1, hpr, hr2⟩
          · exact (q_bf_as hbr (by rw [show q_m3 W.σ pos q r (r + 1) = W.σ r by unfold q_m3; rw [if_pos (by omega), Nat.add_sub_cancel]]; exact hbf r (by omega) (by omega))).elim
          rw [show q_m3 W.σ pos q r (r + 1) = W.σ (r + 1) by unfold q_m3; rw [if_neg (by omega), if_neg (by omega)]] at hbr
          refine q_aload_n dX4_settle_73 rfl ?_
          refine fRX4_11 (o := some 10) dX4_settle_74 rfl (by decide) (K.le (by decide)) (K.lk rfl) ?_
          refine q_rfS ?_
          refine q_iload_n dX4_settle_77 rfl ?_
          refine q_aload_n dX4_settle_78 rfl ?_
          refine fRX4_11 (o := some 10) dX4_settle_79 rfl (by decide) (K.le (by decide)) (K.lk rfl) ?_
          refine q_rfS ?_
          refine q_iload_n dX4_settle_82 rfl ?_
          refine q_iconst (v := nI 1) dX4_settle_83 (by decide) ?_
          refine q_iaddN dX4_settle_84 ?_
          refine q_aaldN (len := 40) (o := some (11 + 3 * W.σ (r + 1))) (by decide) (by decide) dX4_settle_85 (by decide) (K.le (by decide)) rfl (by omega) (by decide) ((congrFun (q_rR _ _ _) _).trans ((q_or_in _ _ (by omega)).trans (congrArg (fun z => some (11 + 3 * z)) (show q_m3 W.σ pos q r (r + 1) = W.σ (r + 1) by unfold q_m3; rw [if_neg (by omega), if_neg (by omega)])))) ?_
          refine q_rfS ?_
          refine q_aastN (len := 40) (t0 := 2) (r := (RX3, TX3, 5)) (by decide) (by decide) rfl (q_ts (V.s40 (by omega))) rfl dX4_settle_86 (by decide) (K.le (by decide)) (by omega) (K.le (q_bs (V.s40 (by omega)))) rfl (by omega) (by decide) ?_
          refine q_iincN (n := 1) (L' := [_, _, _, _]) (by decide) dX4_settle_87 rfl rfl (by decide) rfl ?_
          refine q_goto (tgt := 48) dX4_settle_90 rfl ?_
          exact q_to (ih48 (r + 1) (⟨Or.inr ⟨e1, by omega, fun k h1 h2 => if e : k = r + 1 then (by rw [e]; assumption) else hr2 k h1 (by omega)⟩, by omega⟩) (by omega)) (q_sub_s rfl (q_sub_i rfl (q_sub_s rfl (q_sub_i rfl q_sub_0)))) (by rw [q_rsetR, q_or_up _ _ _ _ (by omega), e1, q_m3_up _ hpr])
        · refine q_if_eq (tgt := 93) dX4_settle_70 rfl (fun _ => ?_) (fun c => absurd (by decide) c)
          refine q_aload_n dX4_settle_93 rfl ?_
          refine fRX4_11 (o := some 10) dX4_settle_94 rfl (by decide) (K.le (by decide)) (K.lk rfl) ?_
          refine q_rfS ?_
          refine q_iload_n dX4_settle_97 rfl ?_
          refine q_aload_n dX4_settle_98 rfl ?_
          refine q_aastN (len := 40) (t0 := 2) (r := (RX3, TX3, 5)) (by decide) (by decide) rfl (q_ts (V.s40 (by omega))) rfl dX4_settle_99 (by decide) (K.le (by decide)) (by omega) (K.le (q_bs (V.s40 (by omega)))) rfl (by omega) (by decide) ?_
          refine q_vret dX4_settle_100 rfl (Or.inl rfl) ?_
          have hr0 := hr
          exact ⟨_, rfl, rfl, r, hrc, by rw [q_rsetR, q_or_up _ _ _ _ (by omega), q_m3_mv _ (by omega)], fun k h1 h2 => hbf k (by omega) h2, fun k h1 h2 => hr.elim (fun a => absurd h1 (by omega)) (fun a => a.2.2 k h1 h2), fun h9 => by have e : r = q := (by omega); rw [e]; first | exact Or.inl (by omega) | exact Or.inr (by assumption), fun h9 => by first | exact Or.inl (by omega) | (refine Or.inr ?_; rw [← show q_m3 W.σ pos q r (r + 1) = W.σ (r + 1) by unfold q_m3; rw [if_neg (by omega), if_neg (by omega)]]; assumption)⟩
