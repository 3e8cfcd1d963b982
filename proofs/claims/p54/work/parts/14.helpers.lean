/-! THE CLASS'S OWN HELPERS -/
theorem q_W.dl_in (W : q_W) (g g' : Nat → Int32) : ∀ (n k : Nat), k < 200 → W.dl g n k = W.dl g' n k
  | 0, k, hk => by
    show q_cpy _ _ _ _ = q_cpy _ _ _ _
    unfold q_cpy; rw [if_pos hk, if_pos hk]
  | n + 1, k, hk => by
    show va_up _ _ _ _ = va_up _ _ _ _
    unfold va_up
    by_cases e : k = W.dy (W.σ n)
    · rw [if_pos e, if_pos e, W.dl_in g g' n _ (e ▸ hk)]
    · rw [if_neg e, if_neg e, W.dl_in g g' n k hk]
/-- the load of a day -/
def q_W.D (W : q_W) (k : Nat) : Int32 := W.dl (fun _ => 0) W.c k
/-- fitness or fatigue behind n days -/
def q_dec (by_ : Int32) (L : Nat → Int32) : Nat → Int32
  | 0 => nI 0
  | n + 1 => q_dec by_ L n + (nI 1000 * L n - q_dec by_ L n) / by_
/-- no session has the id -/
abbrev q_W.no (W : q_W) (x : Int32) : Prop := q_ps (fun i => decide (W.id (W.σ i) = x)) W.c < 0
def q_W.at_ (W : q_W) (x : Int32) : Nat := (q_ps (fun i => decide (W.id (W.σ i) = x)) W.c).toNatClampNeg
theorem q_ps_pos {p : Nat → Bool} {n : Nat} (hn : n < 2 ^ 31) (h : ¬ q_ps p n < 0) : ∃ i, i < n ∧ p i = true ∧ (∀ j, j < i → p j = false) ∧ q_ps p n = nI i ∧ (q_ps p n).toNatClampNeg = i := by
  rcases q_ps_c p n with ⟨i, h1, h2, h3, h4⟩ | ⟨_, h4⟩
  · exact ⟨i, h1, h2, h3, h4, by rw [h4, nI_clamp (by omega)]⟩
  · rw [h4] at h; exact absurd (by decide) h
theorem q_vw.at_ {h : q_Hp} {W : q_W} (V : q_vw h W) {x : Int32} (hx : ¬ W.no x) : W.at_ x < W.c ∧ W.at_ x < 40 ∧ q_ps (fun i => decide (W.id (W.σ i) = x)) W.c = nI (W.at_ x) ∧ W.id (W.σ (W.at_ x)) = x ∧ ∀ j, j < W.at_ x → W.id (W.σ j) ≠ x := by
  have hc := V.c40
  obtain ⟨i, h1, h2, h3, h4, h5⟩ := q_ps_pos (by omega) hx
  have e : W.at_ x = i := h5
  rw [e]
  exact ⟨h1, by omega, h4, by simpa using h2, fun j hj => by simpa using h3 j hj⟩
theorem q_cpy_id {f g : Nat → Int32} {n : Nat} (hfg : ∀ k, k < n → f k = g k) : q_cpy f g n = g := by
  funext k
  unfold q_cpy
  split
  · exact hfg k (by assumption)
  · rfl
theorem q_cpy_lt (f g : Nat → Int32) {n k : Nat} (hk : k < n) : q_cpy f g n k = f k := if_pos hk
/-- minutes before a part -/
def q_cm (m : Nat → Int32) : Nat → Nat
  | 0 => 0
  | p + 1 => q_cm m p + (m p).toNatClampNeg
/-- the row of minutes behind n parts -/
def q_fm (m i : Nat → Int32) (g : Nat → Int32) : Nat → Nat → Int32
  | 0 => g
  | p + 1 => fun k => if q_cm m p ≤ k ∧ k < q_cm m (p + 1) then i p else q_fm m i g p k
theorem q_cm_mono (m : Nat → Int32) {a b : Nat} (h : a ≤ b) : q_cm m a ≤ q_cm m b := by
  induction b with
  | zero => rw [Nat.le_zero.mp h]; exact Nat.le_refl _
  | succ b ih =>
    by_cases e : a = b + 1
    · rw [e]; exact Nat.le_refl _
    · have := ih (by omega)
      show _ ≤ q_cm m b + _
      omega
theorem q_fm_in (m i g g' : Nat → Int32) : ∀ (n k : Nat), k < q_cm m n → q_fm m i g n k = q_fm m i g' n k
  | 0, k, hk => absurd hk (Nat.not_lt_zero k)
  | n + 1, k, hk => by
    show (if _ then _ else _) = (if _ then _ else _)
    split
    · rfl
    · exact q_fm_in m i g g' n k (by omega)
def q_W.ml (W : q_W) (s : Nat) : Nat := q_cm (W.mn s) (W.pn s)
/-- the intensity of a minute -/
def q_W.im (W : q_W) (s k : Nat) : Int32 := q_fm (W.mn s) (W.it s) (fun _ => 0) (W.pn s) k
/-- a session's parts as they may be -/
def q_W.okS (W : q_W) (s : Nat) : Prop := (∀ p, p < W.pn s → ∃ k : Nat, 1 ≤ k ∧ k ≤ 120 ∧ W.mn s p = nI k) ∧ W.ml s ≤ 240
/-- the greatest of n, at least -1 -/
def q_mx (f : Nat → Int32) : Nat → Int32
  | 0 => -1
  | n + 1 => if q_mx f n < f n then f n else q_mx f n
def q_W.ef (W : q_W) (s m : Nat) : Int32 := q_mx (fun e => q_sum (W.im s) (m + e) - q_sum (W.im s) e) (W.ml s + 1 - m)
def q_W.et (W : q_W) (s m : Nat) : Int32 := q_mx (fun e => q_sum (fun k => W.im s (e + k)) m) (W.ml s + 1 - m)
theorem q_fm_step (m i g : Nat → Int32) (p j : Nat) (hj : q_cm m p ≤ j) : va_up (fun k => if q_cm m p ≤ k ∧ k < j then i p else q_fm m i g p k) j (i p) = fun k => if q_cm m p ≤ k ∧ k < j + 1 then i p else q_fm m i g p k := by
  funext k
  unfold va_up
  by_cases e : k = j
  · subst e; rw [if_pos rfl, if_pos (by omega)]
  · rw [if_neg e]
    show (if q_cm m p ≤ k ∧ k < j then i p else q_fm m i g p k) = _
    by_cases e2 : q_cm m p ≤ k ∧ k < j
    · rw [if_pos e2, if_pos (by omega)]
    · rw [if_neg e2, if_neg (by omega)]
theorem q_fm_0 (m i g : Nat → Int32) (p : Nat) : (fun k => if q_cm m p ≤ k ∧ k < q_cm m p then i p else q_fm m i g p k) = q_fm m i g p := by
  funext k; rw [if_neg (by omega)]
theorem q_nI_clamp {x : Int32} {k : Nat} (hk : k ≤ 120) (e : x = nI k) : x = nI x.toNatClampNeg := by
  rw [e, nI_clamp (by omega)]
theorem g_X9_requireZone {Φ : q_Fx} {h : q_Hp} (K : q_Lk Φ h.R h.n) {z : Int32} : q_Ct Φ false yX9_requireZone cX9_requireZone mX9_requireZone [.int z] h (q_tk (¬ (nI 1 ≤ z ∧ z ≤ nI 5)) "java/lang/IllegalArgumentException" h none h) := by
  refine q_enter K.st rfl rfl (by decide) rfl (Nat.le_of_ble_eq_true rfl) (L := [_]) rfl ?_
  refine q_iload_n dX9_requireZone_0 rfl ?_
  refine q_iconst (v := nI 1) dX9_requireZone_1 (by decide) ?_
  refine q_iconst (v := nI 5) dX9_requireZone_2 (by decide) ?_
  refine q_sT (kc := 0) (ks := 0) (g_X9_requireRange (h := h) K (v := z) (lo := (nI (1))) (hi := (nI (5)))) wX9_requireRange kX9_65 sX9_requireRange (by decide) rfl rfl (Nat.le_of_ble_eq_true rfl) dX9_requireZone_3 rfl rfl rfl (fun c1 => by exact Or.inl ⟨c1, rfl, rfl⟩) (fun c2 => ?_)
  refine q_vret dX9_requireZone_6 rfl (Or.inl rfl) ?_
  exact Or.inr ⟨c2, rfl, rfl⟩
theorem g_X9_requireDayUpToToday {Φ : q_Fx} {h : q_Hp} (K : q_Lk Φ h.R h.n) {W : q_W} (V : q_vw h W) {d : Int32} : q_Ct Φ false yX9_requireDayUpToToday cX9_requireDayUpToToday mX9_requireDayUpToToday [.ref 1, .int d] h (q_tk (¬ (nI 0 ≤ d ∧ d ≤ nI W.t)) "java/lang/IllegalArgumentException" h none h) := by
  refine q_enter K.st rfl rfl (by decide) rfl (Nat.le_of_ble_eq_true rfl) (L := [_, _]) rfl ?_
  refine q_iload_n dX9_requireDayUpToToday_0 rfl ?_
  refine q_iconst (v := nI 0) dX9_requireDayUpToToday_1 (by decide) ?_
  refine q_aload_n dX9_requireDayUpToToday_2 rfl ?_
  refine fRX9_12 (o := some 2) dX9_requireDayUpToToday_3 rfl (by decide) (K.le (by decide)) (K.lk rfl) ?_
  refine q_rfS ?_
  refine fIX9_69 dX9_requireDayUpToToday_6 rfl (by decide) (K.le (by decide)) ?_
  refine q_tv (show _ = (nI (W.t)) from V.t) ?_
  refine q_sT (kc := 0) (ks := 0) (g_X9_requireRange (h := h) K (v := d) (lo := (nI (0))) (hi := (nI (W.t)))) wX9_requireRange kX9_65 sX9_requireRange (by decide) rfl rfl (Nat.le_of_ble_eq_true rfl) dX9_requireDayUpToToday_9 rfl rfl rfl (fun c1 => by exact Or.inl ⟨c1, rfl, rfl⟩) (fun c2 => ?_)
  refine q_vret dX9_requireDayUpToToday_12 rfl (Or.inl rfl) ?_
  exact Or.inr ⟨c2, rfl, rfl⟩
theorem g_X9_existingPosition {Φ : q_Fx} {h : q_Hp} (K : q_Lk Φ h.R h.n) {W : q_W} (V : q_vw h W) {x : Int32} : q_Ct Φ false yX9_existingPosition cX9_existingPosition mX9_existingPosition [.ref 1, .int x] h (q_tk (W.no x) "java/util/NoSuchElementException" h (some (.int (nI (W.at_ x)))) h) := by
  refine q_enter K.st rfl rfl (by decide) rfl (Nat.le_of_ble_eq_true rfl) (L := [_, _, none]) rfl ?_
  refine q_aload_n dX9_existingPosition_0 rfl ?_
  refine fRX9_12 (o := some 2) dX9_existingPosition_1 rfl (by decide) (K.le (by decide)) (K.lk rfl) ?_
  refine q_rfS ?_
  refine fRX9_156 (o := some 9) dX9_existingPosition_4 rfl (by decide) (K.le (by decide)) (K.lk rfl) ?_
  refine q_rfS ?_
  refine q_iload_n dX9_existingPosition_7 rfl ?_
  refine q_vD (kc := 1) (ks := 6) (g_X4_positionWithId (h := h) K V (x := x)) wX4_positionWithId kX9_356 iX4_positionWithId eX4_positionWithId rfl rfl (by decide) (K.le (by decide)) (by decide) rfl rfl (Nat.le_of_ble_eq_true rfl) dX9_existingPosition_8 rfl rfl ?_
  refine q_istore_n (L' := [_, _, _]) dX9_existingPosition_11 rfl (by decide) rfl ?_
  refine q_iload_n dX9_existingPosition_12 rfl ?_
  refine q_if_ge (tgt := 27) dX9_existingPosition_13 rfl (fun c1 => ?_) (fun c2 => ?_)
  · refine q_iload_n dX9_existingPosition_27 rfl ?_
    refine q_iret dX9_existingPosition_28 rfl (Or.inl rfl) ?_
    exact Or.inr ⟨Int32.not_lt.mpr (by assumption), by rw [(V.at_ (Int32.not_lt.mpr (by assumption))).2.2.1], rfl⟩
  · refine q_throw13W (text := "no session has this id") tw_117_121 (by decide) rfl ?_ dX9_existingPosition_16 dX9_existingPosition_19 dX9_existingPosition_20 dX9_existingPosition_23 dX9_existingPosition_26 (by decide) (by decide) (by decide) (by decide)
    exact Or.inl ⟨Int32.not_le.mp (by assumption), rfl, rfl⟩
theorem g_X9_existingSession {Φ : q_Fx} {h : q_Hp} (K : q_Lk Φ h.R h.n) {W : q_W} (V : q_vw h W) {x : Int32} : q_Ct Φ false yX9_existingSession cX9_existingSession mX9_existingSession [.ref 1, .int x] h (q_tk (W.no x) "java/util/NoSuchElementException" h (some (.ref (11 + 3 * W.σ (W.at_ x)))) h) := by
  refine q_enter K.st rfl rfl (by decide) rfl (Nat.le_of_ble_eq_true rfl) (L := [_, _]) rfl ?_
  refine q_aload_n dX9_existingSession_0 rfl ?_
  refine fRX9_12 (o := some 2) dX9_existingSession_1 rfl (by decide) (K.le (by decide)) (K.lk rfl) ?_
  refine q_rfS ?_
  refine fRX9_156 (o := some 9) dX9_existingSession_4 rfl (by decide) (K.le (by decide)) (K.lk rfl) ?_
  refine q_rfS ?_
  refine fRX9_205 (o := some 10) dX9_existingSession_7 rfl (by decide) (K.le (by decide)) (K.lk rfl) ?_
  refine q_rfS ?_
  refine q_aload_n dX9_existingSession_10 rfl ?_
  refine q_iload_n dX9_existingSession_11 rfl ?_
  refine q_vT (kc := 0) (ks := 0) (g_X9_existingPosition (h := h) K V (x := x)) wX9_existingPosition kX9_187 iX9_existingPosition eX9_existingPosition rfl rfl (by decide) (K.le (by decide)) (by decide) rfl rfl (Nat.le_of_ble_eq_true rfl) dX9_existingSession_12 rfl rfl rfl (fun c1 => by exact Or.inl ⟨c1, rfl, rfl⟩) (fun c2 => ?_)
  have hat := V.at_ c2
  have hc40 := V.c40
  refine q_aaldN (len := 40) (o := some (11 + 3 * W.σ (W.at_ x))) (by decide) (by decide) dX9_existingSession_15 (by decide) (K.le (by decide)) rfl (by omega) (by decide) (V.sg (by omega)) ?_
  refine q_rfS ?_
  refine q_aret dX9_existingSession_16 rfl (Or.inl ⟨_, rfl⟩) (Or.inl rfl) ?_
  exact Or.inr ⟨c2, rfl, rfl⟩
/-- what is kept of fitness and fatigue holds -/
def q_Tr (h : q_Hp) (W : q_W) (k : Nat) : Prop := h.I 1053 2 = nI k ∧ k ≤ W.t + 1 ∧ (∀ d, d < k → h.I 1054 d = q_dec (nI 42) W.D (d + 1)) ∧ (∀ d, d < k → h.I 1055 d = q_dec (nI 7) W.D (d + 1))
theorem q_dec_b (b : Int32) (L g : Nat → Int32) {i n : Nat} (hi : i ≤ n) : (if i = 0 then nI 0 else q_cpy (fun d => q_dec b L (d + 1)) g n (i - 1)) = q_dec b L i := by
  cases i with
  | zero => rfl
  | succ i => rw [if_neg (by omega), Nat.add_sub_cancel, q_cpy_lt _ _ (by omega)]
