/-! MINUTES, EFFORTS, THE PLAN'S COURSE, SIGNS, ROWS OF DAYS -/
theorem q_cpy_ge (f g : Nat → Int32) {n k : Nat} (hk : n ≤ k) : q_cpy f g n k = g k := if_neg (by omega)
theorem q_sum_cong {f g : Nat → Int32} {n : Nat} (h : ∀ k, k < n → f k = g k) : q_sum f n = q_sum g n := by
  induction n with
  | zero => rfl
  | succ n ih =>
    show q_sum f n + f n = q_sum g n + g n
    rw [ih fun k hk => h k (by omega), h n (by omega)]
theorem q_sum_front (f : Nat → Int32) (n : Nat) : q_sum f (n + 1) = f 0 + q_sum (fun k => f (k + 1)) n := by
  induction n with
  | zero => show 0 + f 0 = f 0 + 0; rw [Int32.zero_add, Int32.add_zero]
  | succ n ih =>
    show q_sum f (n + 1) + f (n + 1) = f 0 + (q_sum (fun k => f (k + 1)) n + f (n + 1))
    rw [ih, Int32.add_assoc]
theorem q_slide (L : Nat → Int32) (a n : Nat) : q_sum (fun k => L (a + k)) n + (L (a + n) - L a) = q_sum (fun k => L (a + 1 + k)) n := by
  have h1 := q_sum_front (fun k => L (a + k)) n
  have h2 : q_sum (fun k => L (a + k)) (n + 1) = q_sum (fun k => L (a + k)) n + L (a + n) := rfl
  have h3 : (fun k => L (a + (k + 1))) = fun k => L (a + 1 + k) := funext fun k => by rw [show a + (k + 1) = a + 1 + k by omega]
  rw [h2] at h1
  simp only [Nat.add_zero] at h1
  rw [h3] at h1
  rw [Int32.sub_eq_add_neg, ← Int32.add_assoc, h1, Int32.add_comm (L a), Int32.add_assoc, ← Int32.sub_eq_add_neg, Int32.sub_self, Int32.add_zero]
def q_fs3 (W : q_W) (x : Nat × Nat × Nat × Nat) (day : Nat) : Nat × Nat × Nat × Nat :=
  if x.1 < W.pc then (if W.tg x.1 ≤ nI 2 * W.D day then (x.1 + 1, x.2.1, x.2.2.1, 0) else if x.2.2.2 + 1 = 3 then (x.1 + 1, x.2.1 + 1, x.2.2.1 + 1, 0) else (x.1, x.2.1 + 1, x.2.2.1, x.2.2.2 + 1)) else x
/-- the plan's course behind n days: due, missed, dropped, misses of the entry -/
def q_W.fo (W : q_W) : Nat → Nat × Nat × Nat × Nat
  | 0 => (0, 0, 0, 0)
  | n + 1 => q_fs3 W (W.fo n) (W.pf + n)
theorem q_W.fo_le (W : q_W) (n : Nat) : (W.fo n).1 ≤ W.pc ∧ (W.fo n).2.1 ≤ n ∧ (W.fo n).2.2.1 ≤ n ∧ (W.fo n).2.2.2 ≤ 2 := by
  induction n with
  | zero => exact ⟨Nat.zero_le _, Nat.le_refl _, Nat.le_refl _, Nat.zero_le _⟩
  | succ n ih =>
    show (q_fs3 W (W.fo n) (W.pf + n)).1 ≤ _ ∧ (q_fs3 W (W.fo n) (W.pf + n)).2.1 ≤ _ ∧ (q_fs3 W (W.fo n) (W.pf + n)).2.2.1 ≤ _ ∧ (q_fs3 W (W.fo n) (W.pf + n)).2.2.2 ≤ _
    generalize W.fo n = x at ih
    unfold q_fs3
    split
    · split
      · dsimp only; omega
      · split <;> dsimp only <;> omega
    · omega
theorem q_W.fo_stuck (W : q_W) {i : Nat} (h : ¬ (W.fo i).1 < W.pc) : ∀ j, i ≤ j → W.fo j = W.fo i := by
  intro j hj
  induction j with
  | zero => rw [Nat.le_zero.mp hj]
  | succ j ih =>
    by_cases e : i = j + 1
    · rw [e]
    · have e2 := ih (by omega)
      show q_fs3 W (W.fo j) _ = _
      rw [e2]; unfold q_fs3; rw [if_neg h]
theorem q_W.fo_c (W : q_W) {i : Nat} (h : (W.fo i).1 < W.pc) (h2 : W.tg (W.fo i).1 ≤ nI 2 * W.D (W.pf + i)) : W.fo (i + 1) = ((W.fo i).1 + 1, (W.fo i).2.1, (W.fo i).2.2.1, 0) := by
  show q_fs3 W (W.fo i) _ = _
  unfold q_fs3; rw [if_pos h, if_pos h2]
theorem q_W.fo_a (W : q_W) {i : Nat} (h : (W.fo i).1 < W.pc) (h2 : ¬ W.tg (W.fo i).1 ≤ nI 2 * W.D (W.pf + i)) (h3 : (W.fo i).2.2.2 + 1 = 3) : W.fo (i + 1) = ((W.fo i).1 + 1, (W.fo i).2.1 + 1, (W.fo i).2.2.1 + 1, 0) := by
  show q_fs3 W (W.fo i) _ = _
  unfold q_fs3; rw [if_pos h, if_neg h2, if_pos h3]
theorem q_W.fo_b (W : q_W) {i : Nat} (h : (W.fo i).1 < W.pc) (h2 : ¬ W.tg (W.fo i).1 ≤ nI 2 * W.D (W.pf + i)) (h3 : ¬ (W.fo i).2.2.2 + 1 = 3) : W.fo (i + 1) = ((W.fo i).1, (W.fo i).2.1 + 1, (W.fo i).2.2.1, (W.fo i).2.2.2 + 1) := by
  show q_fs3 W (W.fo i) _ = _
  unfold q_fs3; rw [if_pos h, if_neg h2, if_neg h3]
def q_c3 (g : Nat → Int32) (a b c : Int32) : Nat → Int32 := fun k => if k = 0 then a else if k = 1 then b else if k = 2 then c else g k
theorem q_c3_0 (g : Nat → Int32) (a b c x : Int32) : va_up (q_c3 g a b c) 0 x = q_c3 g x b c := by
  funext k
  by_cases e : k = 0
  · subst e; rfl
  · simp [va_up, q_c3, e]
theorem q_c3_1 (g : Nat → Int32) (a b c x : Int32) : va_up (q_c3 g a b c) 1 x = q_c3 g a x c := by
  funext k
  by_cases e : k = 1
  · subst e; rfl
  · simp [va_up, q_c3, e]
theorem q_c3_2 (g : Nat → Int32) (a b c x : Int32) : va_up (q_c3 g a b c) 2 x = q_c3 g a b x := by
  funext k
  by_cases e : k = 2
  · subst e; rfl
  · simp [va_up, q_c3, e]
theorem q_c3_i (h : q_Hp) (p : Nat) (a b c : Int32) : ((h.setI p 0 a).setI p 1 b).setI p 2 c = h.rowI p (q_c3 (h.I p) a b c) := by
  rw [q_setI_row h, q_rset, q_rset]
  congr 1
  funext k
  by_cases e : k = 0
  · subst e; rfl
  by_cases e1 : k = 1
  · subst e1; rfl
  by_cases e2 : k = 2
  · subst e2; rfl
  simp [va_up, q_c3, e, e1, e2]
def q_W.due (W : q_W) : Nat := (W.fo (W.t - W.pf)).1
def q_W.mis (W : q_W) : Nat := (W.fo (W.t - W.pf)).2.1
def q_W.drp (W : q_W) : Nat := (W.fo (W.t - W.pf)).2.2.1
theorem q_W.fo_end (W : q_W) {i : Nat} (h : W.t ≤ W.pf + i ∨ W.pc ≤ (W.fo i).1) (hi : i ≤ W.t - W.pf) : W.fo i = W.fo (W.t - W.pf) := by
  rcases h with h | h
  · rw [show i = W.t - W.pf by omega]
  · exact (W.fo_stuck (Nat.not_lt.mpr h) _ hi).symm
/-- the place of the greatest of f 0 .. f n, the first of equals -/
def q_br (f : Nat → Int32) : Nat → Nat
  | 0 => 0
  | n + 1 => if f (q_br f n) < f (n + 1) then n + 1 else q_br f n
theorem q_br_le (f : Nat → Int32) (n : Nat) : q_br f n ≤ n := by
  induction n with
  | zero => exact Nat.le_refl _
  | succ n ih => unfold q_br; split <;> omega
/-- the place of the first that is the greatest of n, over -1 -/
def q_bp (f : Nat → Int32) : Nat → Nat
  | 0 => 0
  | n + 1 => if q_mx f n < f n then n else q_bp f n
theorem q_bp_le (f : Nat → Int32) (n : Nat) : q_bp f n ≤ n := by
  induction n with
  | zero => exact Nat.le_refl _
  | succ n ih => unfold q_bp; split <;> omega
def q_W.bp (W : q_W) (m : Nat) : Nat := q_bp (fun i => W.ef (W.σ i) m) W.c
theorem q_az_in {g g' : Nat → Int32} (h : ∀ k, k < 6 → g k = g' k) (z : Nat → Nat) (hz : ∀ p, z p < 6) (m : Nat → Int32) (n k : Nat) (hk : k < 6) : q_az g z m n k = q_az g' z m n k := by
  induction n generalizing k with
  | zero => exact h k hk
  | succ n ih =>
    show va_up _ _ _ _ = va_up _ _ _ _
    unfold va_up
    split
    · rw [ih _ (hz n)]
    · exact ih k hk
/-- the zones' minutes of the first n sessions in order, of one day -/
def q_W.zd (W : q_W) (g : Nat → Int32) (day : Nat) : Nat → Nat → Int32
  | 0 => g
  | n + 1 => if W.dy (W.σ n) = day then q_az (W.zd g day n) (W.z (W.σ n)) (W.mn (W.σ n)) (W.pn (W.σ n)) else W.zd g day n
def q_W.zr (W : q_W) (day : Nat) : Nat → Int32 := W.zd (fun _ => nI 0) day W.c
theorem q_W.z_lt (W : q_W) (s p : Nat) : W.z s p < 6 := by have := q_zn_le W.bd (W.it s p) (W.lt s); show q_zn _ _ _ < 6; omega
theorem q_W.zd_in (W : q_W) {g g' : Nat → Int32} (h : ∀ k, k < 6 → g k = g' k) (day n k : Nat) (hk : k < 6) : W.zd g day n k = W.zd g' day n k := by
  induction n generalizing k with
  | zero => exact h k hk
  | succ n ih =>
    show (if _ then _ else _ : Nat → Int32) k = (if _ then _ else _ : Nat → Int32) k
    split
    · exact q_az_in (fun k hk => ih k hk) _ (fun p => W.z_lt _ p) _ _ k hk
    · exact ih k hk
/-- the greatest of r 1 .. r n over place 0 -/
theorem q_br_cong {f g : Nat → Int32} {n : Nat} (h : ∀ k, k ≤ n → f k = g k) : q_br f n = q_br g n := by
  induction n with
  | zero => rfl
  | succ n ih =>
    have e := ih fun k hk => h k (by omega)
    have := q_br_le g n
    show (if _ then _ else _) = (if _ then _ else _)
    rw [e, h _ (by omega), h (n + 1) (by omega)]
def q_W.sgn (W : q_W) (day : Nat) : Nat := if W.t < day then 45 else if q_any (fun i => decide (W.dy (W.σ i) = day)) W.c = false then 46 else 48 + q_br (W.zr day) 5
theorem g_X0_follow {Φ : q_Fx} {h : q_Hp} (K : q_Lk Φ h.R h.n) {W : q_W} (V : q_vw h W) (hD : ∀ k, k < 200 → h.I 1057 k = W.D k) : q_Ct Φ false yX0_follow cX0_follow mX0_follow [.ref 1056, .ref 131, .int (nI (W.t)), .ref 1057] h (q_ex (fun v h' => v = none ∧ ∃ g, h' = h.rowI 1056 g ∧ g 0 = nI W.due ∧ g 1 = nI W.mis ∧ g 2 = nI W.drp)) := by
  refine q_enter K.st rfl rfl (by decide) rfl (Nat.le_of_ble_eq_true rfl) (L := [_, _, _, _, none, none, none, none]) rfl ?_
  have ht := V.t9
  have hc := V.pc28
  have hf0 := V.pf9
  refine q_aload_n dX0_follow_0 rfl ?_
  refine q_iconst (v := nI 0) dX0_follow_1 (by decide) ?_
  refine pIX0_9 dX0_follow_2 rfl (by decide) (K.le (by decide)) ?_
  refine q_aload_n dX0_follow_5 rfl ?_
  refine q_iconst (v := nI 0) dX0_follow_6 (by decide) ?_
  refine pIX0_15 dX0_follow_7 rfl (by decide) (K.le (by decide)) ?_
  refine q_aload_n dX0_follow_10 rfl ?_
  refine q_iconst (v := nI 0) dX0_follow_11 (by decide) ?_
  refine pIX0_18 dX0_follow_12 rfl (by decide) (K.le (by decide)) ?_
  refine q_iconst (v := nI 0) dX0_follow_15 (by decide) ?_
  refine q_istore (L' := [_, _, _, _, _, _, _, _]) dX0_follow_16 rfl (by decide) rfl ?_
  refine q_aload_n dX0_follow_18 rfl ?_
  refine fIX0_21 dX0_follow_19 rfl (by decide) (K.le (by decide)) ?_
  refine q_tv (show _ = (nI (W.pf)) from ((congrFun (q_sIn _ _ _ (by omega)) _).trans ((congrFun (q_sIn _ _ _ (by omega)) _).trans ((congrFun (q_sIn _ _ _ (by omega)) _).trans V.pf)))) ?_
  refine q_istore (L' := [_, _, _, _, _, _, _, _]) dX0_follow_22 rfl (by decide) rfl ?_
  refine q_loop (ι := Nat) (μ := fun i => W.t - W.pf - i) (P := fun i => i ≤ W.t - W.pf) (Lf := fun i => [some (.ref 1056), some (.ref 131), some (.int (nI (W.t))), some (.ref 1057), some (.int (nI ((W.fo i).2.2.2))), some (.int (nI (W.pf + i))), none, none]) (hf := fun i => (h.rowI 1056 (q_c3 (h.I 1056) (nI (W.fo i).1) (nI (W.fo i).2.1) (nI (W.fo i).2.2.1)))) (fun i hi24 ih24 => ?_) 0 (by omega) (q_sub_s rfl (q_sub_s rfl (q_sub_i rfl (q_sub_s rfl (q_sub_i rfl (q_sub_i rfl (q_sub_n (q_sub_n q_sub_0)))))))) (q_c3_i h 1056 _ _ _)
  skip
  have hle := W.fo_le i
  refine q_iload dX0_follow_24 rfl ?_
  refine q_iload_n dX0_follow_26 rfl ?_
  refine q_icmp_geN (by omega) (by omega) (tgt := 141) dX0_follow_27 rfl (fun c1 => ?_) (fun c2 => ?_)
  · refine q_vret dX0_follow_141 rfl (Or.inl rfl) ?_
    have e := W.fo_end (i := i) (by omega) (by omega)
    exact ⟨_, rfl, rfl, _, rfl, by rw [e]; rfl, by rw [e]; rfl, by rw [e]; rfl⟩
  · refine q_aload_n dX0_follow_30 rfl ?_
    refine fIX0_9 dX0_follow_31 rfl (by decide) (K.le (by decide)) ?_
    refine q_tv (show _ = (nI ((W.fo i).1)) from ((congrFun (q_rI _ _ _) _).trans rfl)) ?_
    refine q_aload_n dX0_follow_34 rfl ?_
    refine fIX0_26 dX0_follow_35 rfl (by decide) (K.le (by decide)) ?_
    refine q_tv (show _ = (nI (W.pc)) from ((congrFun (q_rIn _ _ (by omega)) _).trans V.pc)) ?_
    refine q_icmp_geN (by omega) (by omega) (tgt := 141) dX0_follow_38 rfl (fun c3 => ?_) (fun c4 => ?_)
    · refine q_vret dX0_follow_141 rfl (Or.inl rfl) ?_
      have e := W.fo_end (i := i) (by omega) (by omega)
      exact ⟨_, rfl, rfl, _, rfl, by rw [e]; rfl, by rw [e]; rfl, by rw [e]; rfl⟩
    · refine q_iconst (v := nI 2) dX0_follow_41 (by decide) ?_
      refine q_aload_n dX0_follow_42 rfl ?_
      refine q_iload dX0_follow_43 rfl ?_
      refine q_ialdN (len := 200) rfl dX0_follow_45 (by decide) (K.le (by decide)) rfl (by omega) (by decide) ?_
      refine q_tv (show _ = (W.D (W.pf + i)) from ((congrFun (q_rIn _ _ (by omega)) _).trans (hD _ (by omega)))) ?_
      refine q_imul dX0_follow_46 ?_
      refine q_aload_n dX0_follow_47 rfl ?_
      refine fRX0_29 (o := some 132) dX0_follow_48 rfl (by decide) (K.le (by decide)) (K.lk rfl) ?_
      refine q_rfS ?_
      refine q_aload_n dX0_follow_51 rfl ?_
      refine fIX0_9 dX0_follow_52 rfl (by decide) (K.le (by decide)) ?_
      refine q_tv (show _ = (nI ((W.fo i).1)) from ((congrFun (q_rI _ _ _) _).trans rfl)) ?_
      refine q_ialdN (len := 28) rfl dX0_follow_55 (by decide) (K.le (by decide)) rfl (by omega) (by decide) ?_
      refine q_tv (show _ = (W.tg ((W.fo i).1)) from ((congrFun (q_rIn _ _ (by omega)) _).trans (congrFun V.tg _))) ?_
      refine q_icmp_ge (tgt := 63) dX0_follow_56 rfl (fun c5 => ?_) (fun c6 => ?_)
      · refine q_iconst (v := nI 0) dX0_follow_63 (by decide) ?_
        refine q_istore (L' := [_, _, _, _, _, _, _, _]) dX0_follow_64 rfl (by decide) rfl ?_
        refine q_iload dX0_follow_66 rfl ?_
        refine q_if_eq (tgt := 84) dX0_follow_68 rfl (fun _ => ?_) (fun c => absurd (by decide) c)
        refine q_iload dX0_follow_84 rfl ?_
        refine q_iconst (v := nI 3) dX0_follow_86 (by decide) ?_
        refine q_icmp_neN (by omega) (by omega) (tgt := 94) dX0_follow_87 rfl (fun c9 => ?_) (fun c => by omega)
        refine q_iconst (v := nI 0) dX0_follow_94 (by decide) ?_
        refine q_istore (L' := [_, _, _, _, _, _, _, _]) dX0_follow_95 rfl (by decide) rfl ?_
        refine q_iload dX0_follow_97 rfl ?_
        refine q_if_eq (tgt := 112) dX0_follow_99 rfl (fun _ => ?_) (fun c => absurd (by decide) c)
        refine q_iload dX0_follow_112 rfl ?_
        refine q_if_ne (tgt := 122) dX0_follow_114 rfl (fun c => absurd (by decide) c) (fun _ => ?_)
        refine q_iload dX0_follow_117 rfl ?_
        refine q_if_ne (tgt := 135) dX0_follow_119 rfl (fun c => absurd (by decide) c) (fun _ => ?_)
        refine q_aload_n dX0_follow_122 rfl ?_
        refine q_dup dX0_follow_123 rfl ?_
        refine fIX0_9 dX0_follow_124 rfl (by decide) (K.le (by decide)) ?_
        refine q_tv (show _ = (nI ((W.fo i).1)) from ((congrFun (q_rI _ _ _) _).trans rfl)) ?_
        refine q_iconst (v := nI 1) dX0_follow_127 (by decide) ?_
        refine q_iaddN dX0_follow_128 ?_
        refine pIX0_9 dX0_follow_129 rfl (by decide) (K.le (by decide)) ?_
        refine q_iconst (v := nI 0) dX0_follow_132 (by decide) ?_
        refine q_istore (L' := [_, _, _, _, _, _, _, _]) dX0_follow_133 rfl (by decide) rfl ?_
        refine q_iincN (n := 1) (L' := [_, _, _, _, _, _, _, _]) (by decide) dX0_follow_135 rfl rfl (by decide) rfl ?_
        refine q_goto (tgt := 24) dX0_follow_138 rfl ?_
        first | have e := W.fo_c (i := i) (by omega) (by assumption) | have e := W.fo_a (i := i) (by omega) (by assumption) (by omega) | have e := W.fo_b (i := i) (by omega) (by assumption) (by omega)
        exact q_to (ih24 (i + 1) (by omega) (by omega)) (q_sub_s rfl (q_sub_s rfl (q_sub_i rfl (q_sub_s rfl (q_sub_i (by rw [e]) (q_sub_i rfl (q_sub_n (q_sub_n q_sub_0)))))))) (by rw [e]; simp only [q_rset, q_c3_0, q_c3_1, q_c3_2])
      · refine q_iconst (v := nI 1) dX0_follow_59 (by decide) ?_
        refine q_goto (tgt := 64) dX0_follow_60 rfl ?_
        refine q_istore (L' := [_, _, _, _, _, _, _, _]) dX0_follow_64 rfl (by decide) rfl ?_
        refine q_iload dX0_follow_66 rfl ?_
        refine q_if_eq (tgt := 84) dX0_follow_68 rfl (fun c => absurd c (by decide)) (fun _ => ?_)
        refine q_aload_n dX0_follow_71 rfl ?_
        refine q_dup dX0_follow_72 rfl ?_
        refine fIX0_15 dX0_follow_73 rfl (by decide) (K.le (by decide)) ?_
        refine q_tv (show _ = (nI ((W.fo i).2.1)) from ((congrFun (q_rI _ _ _) _).trans rfl)) ?_
        refine q_iconst (v := nI 1) dX0_follow_76 (by decide) ?_
        refine q_iaddN dX0_follow_77 ?_
        refine pIX0_15 dX0_follow_78 rfl (by decide) (K.le (by decide)) ?_
        refine q_iincN (n := 1) (L' := [_, _, _, _, _, _, _, _]) (by decide) dX0_follow_81 rfl rfl (by decide) rfl ?_
        refine q_iload dX0_follow_84 rfl ?_
        refine q_iconst (v := nI 3) dX0_follow_86 (by decide) ?_
        refine q_icmp_neN (by omega) (by omega) (tgt := 94) dX0_follow_87 rfl (fun c19 => ?_) (fun c20 => ?_)
        · refine q_iconst (v := nI 0) dX0_follow_94 (by decide) ?_
          refine q_istore (L' := [_, _, _, _, _, _, _, _]) dX0_follow_95 rfl (by decide) rfl ?_
          refine q_iload dX0_follow_97 rfl ?_
          refine q_if_eq (tgt := 112) dX0_follow_99 rfl (fun _ => ?_) (fun c => absurd (by decide) c)
          refine q_iload dX0_follow_112 rfl ?_
          refine q_if_ne (tgt := 122) dX0_follow_114 rfl (fun c => absurd (by decide) c) (fun _ => ?_)
          refine q_iload dX0_follow_117 rfl ?_
          refine q_if_ne (tgt := 135) dX0_follow_119 rfl (fun _ => ?_) (fun c => absurd c (by decide))
          refine q_iincN (n := 1) (L' := [_, _, _, _, _, _, _, _]) (by decide) dX0_follow_135 rfl rfl (by decide) rfl ?_
          refine q_goto (tgt := 24) dX0_follow_138 rfl ?_
          first | have e := W.fo_c (i := i) (by omega) (by assumption) | have e := W.fo_a (i := i) (by omega) (by assumption) (by omega) | have e := W.fo_b (i := i) (by omega) (by assumption) (by omega)
          exact q_to (ih24 (i + 1) (by omega) (by omega)) (q_sub_s rfl (q_sub_s rfl (q_sub_i rfl (q_sub_s rfl (q_sub_i (by rw [e]) (q_sub_i rfl (q_sub_n (q_sub_n q_sub_0)))))))) (by rw [e]; simp only [q_rset, q_c3_0, q_c3_1, q_c3_2])
        · refine q_iconst (v := nI 1) dX0_follow_90 (by decide) ?_
          refine q_goto (tgt := 95) dX0_follow_91 rfl ?_
          refine q_istore (L' := [_, _, _, _, _, _, _, _]) dX0_follow_95 rfl (by decide) rfl ?_
          refine q_iload dX0_follow_97 rfl ?_
          refine q_if_eq (tgt := 112) dX0_follow_99 rfl (fun c => absurd c (by decide)) (fun _ => ?_)
          refine q_aload_n dX0_follow_102 rfl ?_
          refine q_dup dX0_follow_103 rfl ?_
          refine fIX0_18 dX0_follow_104 rfl (by decide) (K.le (by decide)) ?_
          refine q_tv (show _ = (nI ((W.fo i).2.2.1)) from (((congrFun (q_sI _ _ _ _) _).trans (va_un _ _ (by omega))).trans ((congrFun (q_rI _ _ _) _).trans rfl))) ?_
          refine q_iconst (v := nI 1) dX0_follow_107 (by decide) ?_
          refine q_iaddN dX0_follow_108 ?_
          refine pIX0_18 dX0_follow_109 rfl (by decide) (K.le (by decide)) ?_
          refine q_iload dX0_follow_112 rfl ?_
          refine q_if_ne (tgt := 122) dX0_follow_114 rfl (fun _ => ?_) (fun c => absurd c (by decide))
          refine q_aload_n dX0_follow_122 rfl ?_
          refine q_dup dX0_follow_123 rfl ?_
          refine fIX0_9 dX0_follow_124 rfl (by decide) (K.le (by decide)) ?_
          refine q_tv (show _ = (nI ((W.fo i).1)) from (((congrFun (q_sI _ _ _ _) _).trans (va_un _ _ (by omega))).trans (((congrFun (q_sI _ _ _ _) _).trans (va_un _ _ (by omega))).trans ((congrFun (q_rI _ _ _) _).trans rfl)))) ?_
          refine q_iconst (v := nI 1) dX0_follow_127 (by decide) ?_
          refine q_iaddN dX0_follow_128 ?_
          refine pIX0_9 dX0_follow_129 rfl (by decide) (K.le (by decide)) ?_
          refine q_iconst (v := nI 0) dX0_follow_132 (by decide) ?_
          refine q_istore (L' := [_, _, _, _, _, _, _, _]) dX0_follow_133 rfl (by decide) rfl ?_
          refine q_iincN (n := 1) (L' := [_, _, _, _, _, _, _, _]) (by decide) dX0_follow_135 rfl rfl (by decide) rfl ?_
          refine q_goto (tgt := 24) dX0_follow_138 rfl ?_
          first | have e := W.fo_c (i := i) (by omega) (by assumption) | have e := W.fo_a (i := i) (by omega) (by assumption) (by omega) | have e := W.fo_b (i := i) (by omega) (by assumption) (by omega)
          exact q_to (ih24 (i + 1) (by omega) (by omega)) (q_sub_s rfl (q_sub_s rfl (q_sub_i rfl (q_sub_s rfl (q_sub_i (by rw [e]) (q_sub_i rfl (q_sub_n (q_sub_n q_sub_0)))))))) (by rw [e]; simp only [q_rset, q_c3_0, q_c3_1, q_c3_2])
theorem g_X9_followPlan {Φ : q_Fx} {h : q_Hp} (K : q_Lk Φ h.R h.n) {W : q_W} (V : q_vw h W) : q_Ct Φ false yX9_followPlan cX9_followPlan mX9_followPlan [.ref 1] h (q_ex (fun v h' => v = none ∧ ∃ g57 g56, h' = (h.rowI 1057 g57).rowI 1056 g56 ∧ g56 0 = nI W.due ∧ g56 1 = nI W.mis ∧ g56 2 = nI W.drp)) := by
  refine q_enter K.st rfl rfl (by decide) rfl (Nat.le_of_ble_eq_true rfl) (L := [_]) rfl ?_
  refine q_aload_n dX9_followPlan_0 rfl ?_
  refine fRX9_12 (o := some 2) dX9_followPlan_1 rfl (by decide) (K.le (by decide)) (K.lk rfl) ?_
  refine q_rfS ?_
  refine q_aload_n dX9_followPlan_4 rfl ?_
  refine fRX9_52 (o := some 1057) dX9_followPlan_5 rfl (by decide) (K.le (by decide)) (K.lk rfl) ?_
  refine q_rfS ?_
  refine q_vD (kc := 0) (ks := 0) (g_X5_fillDayLoads (h := h) K V) wX5_fillDayLoads kX9_223 iX5_fillDayLoads eX5_fillDayLoads rfl rfl (by decide) (K.le (by decide)) (by decide) rfl rfl (Nat.le_of_ble_eq_true rfl) dX9_followPlan_8 rfl rfl ?_
  have hg57 : ∀ k, k < 200 → W.dl (h.I 1057) W.c k = W.D k := fun k hk => W.dl_in _ _ _ k hk
  generalize W.dl (h.I 1057) W.c = g57 at hg57 ⊢
  refine q_aload_n dX9_followPlan_11 rfl ?_
  refine fRX9_48 (o := some 1056) dX9_followPlan_12 rfl (by decide) (K.le (by decide)) (K.lk rfl) ?_
  refine q_rfS ?_
  refine q_aload_n dX9_followPlan_15 rfl ?_
  refine fRX9_12 (o := some 2) dX9_followPlan_16 rfl (by decide) (K.le (by decide)) (K.lk rfl) ?_
  refine q_rfS ?_
  refine fRX9_281 (o := some 131) dX9_followPlan_19 rfl (by decide) (K.le (by decide)) (K.lk rfl) ?_
  refine q_rfS ?_
  refine q_aload_n dX9_followPlan_22 rfl ?_
  refine fRX9_12 (o := some 2) dX9_followPlan_23 rfl (by decide) (K.le (by decide)) (K.lk rfl) ?_
  refine q_rfS ?_
  refine fIX9_69 dX9_followPlan_26 rfl (by decide) (K.le (by decide)) ?_
  refine q_tv (show _ = (nI (W.t)) from ((congrFun (q_rIn _ _ (by omega)) _).trans V.t)) ?_
  refine q_aload_n dX9_followPlan_29 rfl ?_
  refine fRX9_52 (o := some 1057) dX9_followPlan_30 rfl (by decide) (K.le (by decide)) (K.lk rfl) ?_
  refine q_rfS ?_
  refine q_vR (kc := 0) (ks := 0) (g_X0_follow (h := (h.rowI 1057 g57)) K (V.row (a := 1057) (by decide)) (fun k hk => (congrFun (q_rI _ _ _) _).trans (hg57 k hk))) wX0_follow kX9_367 iX0_follow eX0_follow rfl rfl (by decide) (K.le (by decide)) (by decide) rfl rfl (Nat.le_of_ble_eq_true rfl) dX9_followPlan_33 rfl rfl ?_
  rintro v h' ⟨rfl, g56, rfl, hg0, hg1, hg2⟩
  refine q_vret dX9_followPlan_36 rfl (Or.inl rfl) ?_
  exact ⟨_, rfl, rfl, _, _, rfl, hg0, hg1, hg2⟩
theorem g_X9_existingDueEntry {Φ : q_Fx} {h : q_Hp} (K : q_Lk Φ h.R h.n) {W : q_W} (V : q_vw h W) : q_Ct Φ false yX9_existingDueEntry cX9_existingDueEntry mX9_existingDueEntry [.ref 1] h (fun r h' => ∃ g57 g56, h' = (h.rowI 1057 g57).rowI 1056 g56 ∧ ((W.pc ≤ W.due ∧ r = .error "java/util/NoSuchElementException") ∨ (W.due < W.pc ∧ r = .ok (some (.int (nI W.due)))))) := by
  refine q_enter K.st rfl rfl (by decide) rfl (Nat.le_of_ble_eq_true rfl) (L := [_]) rfl ?_
  have hle : W.due ≤ W.pc := (W.fo_le _).1
  have hc := V.pc28
  refine q_aload_n dX9_existingDueEntry_0 rfl ?_
  refine q_vR (kc := 1) (ks := 6) (g_X9_followPlan (h := h) K V) wX9_followPlan kX9_311 iX9_followPlan eX9_followPlan rfl rfl (by decide) (K.le (by decide)) (by decide) rfl rfl (Nat.le_of_ble_eq_true rfl) dX9_existingDueEntry_1 rfl rfl ?_
  rintro v h' ⟨rfl, g57, g56, rfl, hg0, hg1, hg2⟩
  refine q_aload_n dX9_existingDueEntry_4 rfl ?_
  refine fRX9_48 (o := some 1056) dX9_existingDueEntry_5 rfl (by decide) (K.le (by decide)) (K.lk rfl) ?_
  refine q_rfS ?_
  refine fIX9_320 dX9_existingDueEntry_8 rfl (by decide) (K.le (by decide)) ?_
  refine q_tv (show _ = (nI (W.due)) from ((congrFun (q_rI _ _ _) _).trans hg0)) ?_
  refine q_aload_n dX9_existingDueEntry_11 rfl ?_
  refine fRX9_12 (o := some 2) dX9_existingDueEntry_12 rfl (by decide) (K.le (by decide)) (K.lk rfl) ?_
  refine q_rfS ?_
  refine fRX9_281 (o := some 131) dX9_existingDueEntry_15 rfl (by decide) (K.le (by decide)) (K.lk rfl) ?_
  refine q_rfS ?_
  refine fIX9_285 dX9_existingDueEntry_18 rfl (by decide) (K.le (by decide)) ?_
  refine q_tv (show _ = (nI (W.pc)) from ((congrFun (q_rIn _ _ (by omega)) _).trans ((congrFun (q_rIn _ _ (by omega)) _).trans V.pc))) ?_
  refine q_icmp_ltN (by omega) (by omega) (tgt := 35) dX9_existingDueEntry_21 rfl (fun c1 => ?_) (fun c2 => ?_)
  · refine q_aload_n dX9_existingDueEntry_35 rfl ?_
    refine fRX9_48 (o := some 1056) dX9_existingDueEntry_36 rfl (by decide) (K.le (by decide)) (K.lk rfl) ?_
    refine q_rfS ?_
    refine fIX9_320 dX9_existingDueEntry_39 rfl (by decide) (K.le (by decide)) ?_
    refine q_tv (show _ = (nI (W.due)) from ((congrFun (q_rI _ _ _) _).trans hg0)) ?_
    refine q_iret dX9_existingDueEntry_42 rfl (Or.inl rfl) ?_
    exact ⟨_, _, rfl, Or.inr ⟨by omega, rfl⟩⟩
  · refine q_throw13W (text := "no entry is due") tw_117_121 (by decide) rfl ?_ dX9_existingDueEntry_24 dX9_existingDueEntry_27 dX9_existingDueEntry_28 dX9_existingDueEntry_31 dX9_existingDueEntry_34 (by decide) (by decide) (by decide) (by decide)
    exact ⟨_, _, rfl, Or.inl ⟨by omega, rfl⟩⟩
theorem g_X9_signOfDay {Φ : q_Fx} {h : q_Hp} (K : q_Lk Φ h.R h.n) {W : q_W} (V : q_vw h W) {d : Nat} (hd : d ≤ 300) : q_Ct Φ false yX9_signOfDay cX9_signOfDay mX9_signOfDay [.ref 1, .int (nI (d))] h (q_ex (fun v h' => v = some (.int (nI (W.sgn d))) ∧ ∃ g, h' = h.rowI 1059 g)) := by
  refine q_enter K.st rfl rfl (by decide) rfl (Nat.le_of_ble_eq_true rfl) (L := [_, _, none, none]) rfl ?_
  have hc := V.c40
  have ht := V.t9
  refine q_iload_n dX9_signOfDay_0 rfl ?_
  refine q_aload_n dX9_signOfDay_1 rfl ?_
  refine fRX9_12 (o := some 2) dX9_signOfDay_2 rfl (by decide) (K.le (by decide)) (K.lk rfl) ?_
  refine q_rfS ?_
  refine fIX9_69 dX9_signOfDay_5 rfl (by decide) (K.le (by decide)) ?_
  refine q_tv (show _ = (nI (W.t)) from V.t) ?_
  refine q_icmp_leN (by omega) (by omega) (tgt := 14) dX9_signOfDay_8 rfl (fun c1 => ?_) (fun c2 => ?_)
  · refine q_aload_n dX9_signOfDay_14 rfl ?_
    refine fRX9_12 (o := some 2) dX9_signOfDay_15 rfl (by decide) (K.le (by decide)) (K.lk rfl) ?_
    refine q_rfS ?_
    refine fRX9_156 (o := some 9) dX9_signOfDay_18 rfl (by decide) (K.le (by decide)) (K.lk rfl) ?_
    refine q_rfS ?_
    refine q_iload_n dX9_signOfDay_21 rfl ?_
    refine q_vD (kc := 0) (ks := 0) (g_X4_anyOn (h := h) K V (x := d) (by omega)) wX4_anyOn kX9_373 iX4_anyOn eX4_anyOn rfl rfl (by decide) (K.le (by decide)) (by decide) rfl rfl (Nat.le_of_ble_eq_true rfl) dX9_signOfDay_22 rfl rfl ?_
    refine q_if_ne (tgt := 31) dX9_signOfDay_25 rfl (fun c3 => ?_) (fun c4 => ?_)
    · refine q_aload_n dX9_signOfDay_31 rfl ?_
      refine fRX9_59 (o := some 1059) dX9_signOfDay_32 rfl (by decide) (K.le (by decide)) (K.lk rfl) ?_
      refine q_rfS ?_
      refine q_sD (kc := 0) (ks := 0) (g_clear59 (h := h) K) wX9_clear kX9_212 sX9_clear (by decide) rfl rfl (Nat.le_of_ble_eq_true rfl) dX9_signOfDay_35 rfl rfl ?_
      have hg59 : ∀ k, k < 6 → q_cpy (fun _ => nI 0) (h.I 1059) 6 k = nI 0 := fun k hk => q_cpy_lt _ _ hk
      generalize q_cpy (fun _ => nI 0) (h.I 1059) 6 = g59 at hg59 ⊢
      refine q_iconst (v := nI 0) dX9_signOfDay_38 (by decide) ?_
      refine q_istore_n (L' := [_, _, _, _]) dX9_signOfDay_39 rfl (by decide) rfl ?_
      refine q_loop (ι := Nat) (μ := fun i => W.c - i) (P := fun i => i ≤ W.c) (Lf := fun i => [some (.ref 1), some (.int (nI (d))), some (.int (nI (i))), none]) (hf := fun i => (h.rowI 1059 (W.zd g59 d i))) (fun i hi40 ih40 => ?_) 0 (by omega) (q_sub_s rfl (q_sub_i rfl (q_sub_i rfl (q_sub_n q_sub_0)))) rfl
      skip
      refine q_iload_n dX9_signOfDay_40 rfl ?_
      refine q_aload_n dX9_signOfDay_41 rfl ?_
      refine fRX9_12 (o := some 2) dX9_signOfDay_42 rfl (by decide) (K.le (by decide)) (K.lk rfl) ?_
      refine q_rfS ?_
      refine fRX9_156 (o := some 9) dX9_signOfDay_45 rfl (by decide) (K.le (by decide)) (K.lk rfl) ?_
      refine q_rfS ?_
      refine fIX9_160 dX9_signOfDay_48 rfl (by decide) (K.le (by decide)) ?_
      refine q_tv (show _ = (nI (W.c)) from ((congrFun (q_rIn _ _ (by omega)) _).trans V.c)) ?_
      refine q_icmp_geN (by omega) (by omega) (tgt := 93) dX9_signOfDay_51 rfl (fun c5 => ?_) (fun c6 => ?_)
      · refine q_iconst (v := nI 0) dX9_signOfDay_93 (by decide) ?_
        refine q_istore_n (L' := [_, _, _, _]) dX9_signOfDay_94 rfl (by decide) rfl ?_
        refine q_iconst (v := nI 1) dX9_signOfDay_95 (by decide) ?_
        refine q_istore_n (L' := [_, _, _, _]) dX9_signOfDay_96 rfl (by decide) rfl ?_
        refine q_loop (ι := Nat) (μ := fun z => 5 - z) (P := fun z => z ≤ 5) (Lf := fun z => [some (.ref 1), some (.int (nI (d))), some (.int (nI (q_br (W.zd g59 d W.c) z))), some (.int (nI (z + 1)))]) (hf := fun z => (h.rowI 1059 (W.zd g59 d W.c))) (fun z hi97 ih97 => ?_) 0 (by omega) (q_sub_s rfl (q_sub_i rfl (q_sub_i rfl (q_sub_i rfl q_sub_0)))) (by rw [show i = W.c by omega])
        skip
        have hbr := q_br_le (W.zd g59 d W.c) z
        refine q_iload_n dX9_signOfDay_97 rfl ?_
        refine q_iconst (v := nI 5) dX9_signOfDay_98 (by decide) ?_
        refine q_icmp_gtN (by omega) (by omega) (tgt := 125) dX9_signOfDay_99 rfl (fun c7 => ?_) (fun c8 => ?_)
        · have hbr5 := q_br_le (W.zd g59 d W.c) 5
          refine q_bipush (v := nI 48) dX9_signOfDay_125 (by decide) ?_
          refine q_iload_n dX9_signOfDay_127 rfl ?_
          refine q_iaddN dX9_signOfDay_128 ?_
          refine q_i2c (v := (nI (48 + q_br (W.zd g59 d W.c) 5))) dX9_signOfDay_129 (by rw [pk_char, pk_tn (by omega), Nat.mod_eq_of_lt (by omega), show z = 5 by omega]) ?_
          refine q_zret (ty := .char) dX9_signOfDay_130 rfl (by first | rfl | exact (pk_charN (by omega)).1) (Or.inl rfl) ?_
          exact ⟨_, rfl, by unfold q_W.sgn q_W.zr; rw [if_neg (by omega), if_neg (fun e => absurd ((q_bl0 _).mpr e) (by assumption)), q_br_cong fun k hk => W.zd_in hg59 d W.c k (by omega)], _, rfl⟩
        · refine q_aload_n dX9_signOfDay_102 rfl ?_
          refine fRX9_59 (o := some 1059) dX9_signOfDay_103 rfl (by decide) (K.le (by decide)) (K.lk rfl) ?_
          refine q_rfS ?_
          refine q_iload_n dX9_signOfDay_106 rfl ?_
          refine q_ialdN (len := 6) rfl dX9_signOfDay_107 (by decide) (K.le (by decide)) rfl (by omega) (by decide) ?_
          refine q_tv (show _ = ((W.zd g59 d W.c) (z + 1)) from (congrFun (q_rI _ _ _) _)) ?_
          refine q_aload_n dX9_signOfDay_108 rfl ?_
          refine fRX9_59 (o := some 1059) dX9_signOfDay_109 rfl (by decide) (K.le (by decide)) (K.lk rfl) ?_
          refine q_rfS ?_
          refine q_iload_n dX9_signOfDay_112 rfl ?_
          refine q_ialdN (len := 6) rfl dX9_signOfDay_113 (by decide) (K.le (by decide)) rfl (by omega) (by decide) ?_
          refine q_tv (show _ = ((W.zd g59 d W.c) (q_br (W.zd g59 d W.c) z)) from (congrFun (q_rI _ _ _) _)) ?_
          refine q_icmp_le (tgt := 119) dX9_signOfDay_114 rfl (fun c9 => ?_) (fun c10 => ?_)
          · refine q_iincN (n := 1) (L' := [_, _, _, _]) (by decide) dX9_signOfDay_119 rfl rfl (by decide) rfl ?_
            refine q_goto (tgt := 97) dX9_signOfDay_122 rfl ?_
            exact q_to (ih97 (z + 1) (by omega) (by omega)) (q_sub_s rfl (q_sub_i rfl (q_sub_i (by simp only [q_br]; split <;> first | rfl | (exfalso; simp only [Int32.lt_iff_toInt_lt, Int32.le_iff_toInt_le] at *; omega)) (q_sub_i rfl q_sub_0)))) rfl
          · refine q_iload_n dX9_signOfDay_117 rfl ?_
            refine q_istore_n (L' := [_, _, _, _]) dX9_signOfDay_118 rfl (by decide) rfl ?_
            refine q_iincN (n := 1) (L' := [_, _, _, _]) (by decide) dX9_signOfDay_119 rfl rfl (by decide) rfl ?_
            refine q_goto (tgt := 97) dX9_signOfDay_122 rfl ?_
            exact q_to (ih97 (z + 1) (by omega) (by omega)) (q_sub_s rfl (q_sub_i rfl (q_sub_i (by simp only [q_br]; split <;> first | rfl | (exfalso; simp only [Int32.lt_iff_toInt_lt, Int32.le_iff_toInt_le] at *; omega)) (q_sub_i rfl q_sub_0)))) rfl
      · refine q_aload_n dX9_signOfDay_54 rfl ?_
        refine fRX9_12 (o := some 2) dX9_signOfDay_55 rfl (by decide) (K.le (by decide)) (K.lk rfl) ?_
        refine q_rfS ?_
        refine fRX9_156 (o := some 9) dX9_signOfDay_58 rfl (by decide) (K.le (by decide)) (K.lk rfl) ?_
        refine q_rfS ?_
        refine fRX9_205 (o := some 10) dX9_signOfDay_61 rfl (by decide) (K.le (by decide)) (K.lk rfl) ?_
        refine q_rfS ?_
        refine q_iload_n dX9_signOfDay_64 rfl ?_
        refine q_aaldN (len := 40) (o := some (11 + 3 * W.σ (i))) (by decide) (by decide) dX9_signOfDay_65 (by decide) (K.le (by decide)) rfl (by omega) (by decide) (V.sg (by omega)) ?_
        refine q_rfS ?_
        refine q_astore_n (L' := [_, _, _, _]) dX9_signOfDay_66 rfl (by decide) rfl ?_
        refine q_aload_n dX9_signOfDay_67 rfl ?_
        have hdy := V.dy9 (V.s40 (i := i) (by omega))
        refine fIX9_184 dX9_signOfDay_68 (q_ts (V.s40 (i := (i)) (by omega))) (by omega) (K.le (q_bs (V.s40 (i := (i)) (by omega)))) ?_
        refine q_tv (show _ = (nI (W.dy (W.σ (i)))) from ((congrFun (q_rIn _ _ (by omega)) _).trans (V.dy (V.s40 (i := (i)) (by omega))))) ?_
        refine q_iload_n dX9_signOfDay_71 rfl ?_
        refine q_icmp_neN (by omega) (by omega) (tgt := 87) dX9_signOfDay_72 rfl (fun c11 => ?_) (fun c12 => ?_)
        · refine q_iincN (n := 1) (L' := [_, _, _, _]) (by decide) dX9_signOfDay_87 rfl rfl (by decide) rfl ?_
          refine q_goto (tgt := 40) dX9_signOfDay_90 rfl ?_
          exact q_to (ih40 (i + 1) (by omega) (by omega)) (q_sub_s rfl (q_sub_i rfl (q_sub_i rfl (q_sub_n q_sub_0)))) (by simp only [q_W.zd]; first | rw [if_pos (by omega)] | rw [if_neg (by omega)])
        · refine q_aload_n dX9_signOfDay_75 rfl ?_
          refine fRX9_12 (o := some 2) dX9_signOfDay_76 rfl (by decide) (K.le (by decide)) (K.lk rfl) ?_
          refine q_rfS ?_
          refine q_aload_n dX9_signOfDay_79 rfl ?_
          refine q_aload_n dX9_signOfDay_80 rfl ?_
          refine fRX9_59 (o := some 1059) dX9_signOfDay_81 rfl (by decide) (K.le (by decide)) (K.lk rfl) ?_
          refine q_rfS ?_
          refine q_vD (kc := 0) (ks := 0) (g_X5_addZoneMinutes (h := (h.rowI 1059 (W.zd g59 d i))) K (V.row (a := 1059) (by decide)) (V.s40 (i := (i)) (by omega))) wX5_addZoneMinutes kX9_215 iX5_addZoneMinutes eX5_addZoneMinutes rfl rfl (by decide) (K.le (by decide)) (by decide) rfl rfl (Nat.le_of_ble_eq_true rfl) dX9_signOfDay_84 rfl rfl ?_
          rw [q_rr, q_rI]
          refine q_iincN (n := 1) (L' := [_, _, _, _]) (by decide) dX9_signOfDay_87 rfl rfl (by decide) rfl ?_
          refine q_goto (tgt := 40) dX9_signOfDay_90 rfl ?_
          exact q_to (ih40 (i + 1) (by omega) (by omega)) (q_sub_s rfl (q_sub_i rfl (q_sub_i rfl (q_sub_n q_sub_0)))) (by simp only [q_W.zd]; first | rw [if_pos (by omega)] | rw [if_neg (by omega)])
    · refine q_bipush (v := nI 46) dX9_signOfDay_28 (by decide) ?_
      refine q_zret (ty := .char) dX9_signOfDay_30 rfl (by first | rfl | exact (pk_charN (by omega)).1) (Or.inl rfl) ?_
      exact ⟨_, rfl, by unfold q_W.sgn; rw [if_neg (by omega), if_pos ((q_bl0 _).mp (by assumption))], h.I 1059, (q_rid h 1059).symm⟩
  · refine q_bipush (v := nI 45) dX9_signOfDay_11 (by decide) ?_
    refine q_zret (ty := .char) dX9_signOfDay_13 rfl (by first | rfl | exact (pk_charN (by omega)).1) (Or.inl rfl) ?_
    exact ⟨_, rfl, by unfold q_W.sgn; rw [if_pos (by omega)], h.I 1059, (q_rid h 1059).symm⟩
