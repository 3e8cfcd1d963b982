/-! THE REFERENCE: ORDER, LOADS, DECAY, EFFORTS, PLAN -/
/-- a heap beside another: only the rows load and zones differ -/
def q_lf (h h' : q_Hp) : Prop := (∀ p, p ≠ 1071 → p ≠ 1072 → h'.I p = h.I p) ∧ h'.R = h.R ∧ h'.J = h.J ∧ h'.E = h.E ∧ h'.n = h.n
def q_es (f : Nat → Int32) (m : Nat) : Nat → Int32
  | 0 => nI 0
  | i + 1 => q_es f m i + (f i - (if i < m then nI 0 else f (i - m)))
def q_eb (f : Nat → Int32) (m : Nat) : Nat → Int32
  | 0 => -1
  | i + 1 => if m - 1 ≤ i then (if q_eb f m i < q_es f m (i + 1) then q_es f m (i + 1) else q_eb f m i) else q_eb f m i
theorem q_es_sum (f : Nat → Int32) (m i : Nat) : q_es f m i = q_sum f i - q_sum f (i - m) := by
  have r : ∀ a b x y : Int32, a - b + (x - y) = a + x - (b + y) := fun a b x y => by
    rw [Int32.sub_eq_add_neg, Int32.sub_eq_add_neg, Int32.sub_eq_add_neg, Int32.neg_add, Int32.sub_eq_add_neg]; ac_rfl
  induction i with
  | zero =>
    show nI 0 = q_sum f 0 - q_sum f (0 - m)
    rw [Nat.zero_sub]; exact (show nI 0 = (0 : Int32) - 0 from by decide)
  | succ i ih =>
    show q_es f m i + (f i - (if i < m then nI 0 else f (i - m))) = q_sum f i + f i - q_sum f (i + 1 - m)
    rw [ih, r]
    by_cases e : i < m
    · rw [if_pos e, show i - m = 0 by omega, show i + 1 - m = 0 by omega]
      congr 1
    · rw [if_neg e, show i + 1 - m = (i - m) + 1 by omega]; rfl
theorem q_eb_mx (f : Nat → Int32) (m : Nat) (hm : 1 ≤ m) (i : Nat) : q_eb f m i = q_mx (fun e => q_sum f (m + e) - q_sum f e) (i + 1 - m) := by
  induction i with
  | zero => rw [show 0 + 1 - m = 0 by omega]; rfl
  | succ i ih =>
    unfold q_eb
    rw [ih]
    by_cases e : m - 1 ≤ i
    · rw [if_pos e, show i + 1 + 1 - m = (i + 1 - m) + 1 by omega, q_es_sum, show i + 1 = m + (i + 1 - m) by omega, show m + (i + 1 - m) - m = i + 1 - m by omega]
      rfl
    · rw [if_neg e, show i + 1 + 1 - m = i + 1 - m by omega]
def q_on : Option Nat → Int32
  | none => -1
  | some b => nI b
/-- the strongest of the first n in the order rk -/
def q_sg (f : Nat → Int32) (rk : Nat → Nat) : Nat → Option Nat
  | 0 => none
  | n + 1 => match q_sg f rk n with
    | none => if 0 ≤ f (rk n) then some (rk n) else none
    | some b => if 0 ≤ f (rk n) ∧ f b < f (rk n) then some (rk n) else some b
theorem q_sg_lt {f : Nat → Int32} {rk : Nat → Nat} {c : Nat} (h : ∀ r, r < c → rk r < c) : ∀ n, n ≤ c → ∀ b, q_sg f rk n = some b → b < c := by
  intro n
  induction n with
  | zero => intro _ b e; cases e
  | succ n ih =>
    intro hn b e
    unfold q_sg at e
    split at e
    · split at e
      · cases e; exact h n (by omega)
      · cases e
    · rename_i b2 e2
      split at e
      · cases e; exact h n (by omega)
      · cases e; exact ih (by omega) _ e2
theorem q_sg_some {o : Option Nat} (h : ¬ q_on o < 0) : ∃ b, o = some b := by
  cases o with
  | none => exact absurd (show q_on none < 0 by decide) h
  | some b => exact ⟨b, rfl⟩
theorem q_sgA {f : Nat → Int32} {rk : Nat → Nat} {r : Nat} (h : f (rk r) < 0) : q_on (q_sg f rk (r + 1)) = q_on (q_sg f rk r) := by
  have h1 : ¬ 0 ≤ f (rk r) := Int32.not_le.mpr h
  have e1 : q_sg f rk (r + 1) = match q_sg f rk r with
    | none => if 0 ≤ f (rk r) then some (rk r) else none
    | some b => if 0 ≤ f (rk r) ∧ f b < f (rk r) then some (rk r) else some b := rfl
  rw [e1]
  cases q_sg f rk r with
  | none => dsimp only; rw [if_neg h1]
  | some b => dsimp only; rw [if_neg fun c => h1 c.1]
theorem q_sgB {f : Nat → Int32} {rk : Nat → Nat} {r : Nat} (hs : ∀ b, q_sg f rk r = some b → b < 2 ^ 31) (h : ¬ f (rk r) < 0) (h2 : q_on (q_sg f rk r) < 0) : q_on (q_sg f rk (r + 1)) = nI (rk r) := by
  have h1 : 0 ≤ f (rk r) := Int32.not_lt.mp h
  unfold q_sg
  split
  · rw [if_pos h1]; rfl
  · rename_i b e
    rw [e] at h2
    split
    · rfl
    · rename_i h3
      refine absurd h2 ?_
      show ¬ nI b < 0
      exact nI_pos (hs b e)
theorem q_sgC {f : Nat → Int32} {rk : Nat → Nat} {r b : Nat} (h : ¬ f (rk r) < 0) (hb : q_sg f rk r = some b) (h2 : f b < f (rk r)) : q_on (q_sg f rk (r + 1)) = nI (rk r) := by
  have h1 : 0 ≤ f (rk r) := Int32.not_lt.mp h
  unfold q_sg
  rw [hb]; dsimp only
  rw [if_pos ⟨h1, h2⟩]; rfl
theorem q_sgD {f : Nat → Int32} {rk : Nat → Nat} {r b : Nat} (h : ¬ f (rk r) < 0) (hb : q_sg f rk r = some b) (h2 : f (rk r) ≤ f b) : q_on (q_sg f rk (r + 1)) = nI b := by
  unfold q_sg
  rw [hb]; dsimp only
  rw [if_neg fun c => absurd c.2 (Int32.not_lt.mpr h2)]; rfl
def q_d3 (g : Nat → Int32) (a b c : Int32) : Nat → Int32 := fun k => if k = 9 then a else if k = 10 then b else if k = 11 then c else g k
theorem q_d3_9 (g : Nat → Int32) (a b c x : Int32) : va_up (q_d3 g a b c) 9 x = q_d3 g x b c := by
  funext k
  by_cases e : k = 9
  · subst e; rfl
  · simp [va_up, q_d3, e]
theorem q_d3_10 (g : Nat → Int32) (a b c x : Int32) : va_up (q_d3 g a b c) 10 x = q_d3 g a x c := by
  funext k
  by_cases e : k = 10
  · subst e; rfl
  · simp [va_up, q_d3, e]
theorem q_d3_11 (g : Nat → Int32) (a b c x : Int32) : va_up (q_d3 g a b c) 11 x = q_d3 g a b x := by
  funext k
  by_cases e : k = 11
  · subst e; rfl
  · simp [va_up, q_d3, e]
theorem q_d3_i (h : q_Hp) (p : Nat) (a b c : Int32) : ((h.setI p 9 a).setI p 10 b).setI p 11 c = h.rowI p (q_d3 (h.I p) a b c) := by
  rw [q_setI_row h, q_rset, q_rset]
  congr 1
  funext k
  by_cases e : k = 9
  · subst e; rfl
  by_cases e1 : k = 10
  · subst e1; rfl
  by_cases e2 : k = 11
  · subst e2; rfl
  simp [va_up, q_d3, e, e1, e2]
/-- which code -/
def q_k1 (c : Prop) (a : Nat) : Prop := (c ∧ a = 1) ∨ (¬ c ∧ a = 0)
def q_k2 (c1 c2 : Prop) (a : Nat) : Prop := (c1 ∧ a = 1) ∨ (¬ c1 ∧ c2 ∧ a = 2) ∨ (¬ c1 ∧ ¬ c2 ∧ a = 0)
def q_k3 (c1 c2 c3 : Prop) (a : Nat) : Prop := (c1 ∧ a = 1) ∨ (¬ c1 ∧ c2 ∧ a = 2) ∨ (¬ c1 ∧ ¬ c2 ∧ c3 ∧ a = 3) ∨ (¬ c1 ∧ ¬ c2 ∧ ¬ c3 ∧ a = 0)
/-- minutes of the first n sessions of one day: how many parts -/
def q_W.pa (m : q_W) (d : Nat) : Nat → Nat
  | 0 => 0
  | n + 1 => if m.dy n = d then m.pa d n + m.pn n else m.pa d n
theorem q_W.pa_le {m : q_W} (hp : ∀ k, k < 40 → m.pn k ≤ 8) (d : Nat) : ∀ n, n ≤ 40 → m.pa d n ≤ 8 * n := by
  intro n
  induction n with
  | zero => intro _; exact Nat.zero_le _
  | succ n ih =>
    intro hn
    have := ih (by omega)
    have := hp n (by omega)
    unfold q_W.pa
    split <;> omega
def q_bz (r : Nat → Int32) : Nat → Nat
  | 0 => 1
  | i + 1 => if r (q_bz r i) < r (i + 2) then i + 2 else q_bz r i
theorem q_bz_le (r : Nat → Int32) (n : Nat) : 1 ≤ q_bz r n ∧ q_bz r n ≤ n + 1 := by
  induction n with
  | zero => exact ⟨Nat.le_refl _, Nat.le_refl _⟩
  | succ n ih => unfold q_bz; split <;> omega
def q_W.sg2 (m : q_W) (r : Nat → Int32) (d : Nat) : Nat := if m.t < d then 45 else if q_cn (fun k => decide (m.dy k = d)) m.c = 0 then 46 else if m.pa d m.c = 0 then 48 else 48 + q_bz r 4
theorem g_X10_ranked {Φ : q_Fx} {h : q_Hp} (K : q_Lk Φ h.R h.n) {w : Nat} (hw : q_mw w) (hs : h.R 1061 0 = some w) {m : q_W} (M : q_rw (h.I w) m) {p : Nat} (hp : p < 2 ^ 31) : q_Ct Φ false yX10_ranked cX10_ranked mX10_ranked [.ref 1061, .int (nI (p))] h (q_is (some (.int (q_ps (fun k => decide (m.ah k = p)) m.c))) h) := by
  refine q_enter K.st rfl rfl (by decide) rfl (Nat.le_of_ble_eq_true rfl) (L := [_, _, none, none, none, none, none]) rfl ?_
  have hw1 := q_mw1 hw
  have hc := M.c40
  refine q_iconst (v := nI 0) dX10_ranked_0 (by decide) ?_
  refine q_istore_n (L' := [_, _, _, _, _, _, _]) dX10_ranked_1 rfl (by decide) rfl ?_
  refine q_loop (ι := Nat) (μ := fun q => m.c - q) (P := fun q => q ≤ m.c ∧ ∀ j, j < q → decide (m.ah j = p) = false) (Lf := fun q => [some (.ref 1061), some (.int (nI (p))), some (.int (nI (q))), none, none, none, none]) (hf := fun q => h) (fun q hi2 ih2 => ?_) 0 (⟨by omega, fun j hj => absurd hj (Nat.not_lt_zero j)⟩) (q_sub_s rfl (q_sub_i rfl (q_sub_i rfl (q_sub_n (q_sub_n (q_sub_n (q_sub_n q_sub_0))))))) rfl
  skip
  obtain ⟨hk, hf⟩ := hi2
  refine q_iload_n dX10_ranked_2 rfl ?_
  refine q_aload_n dX10_ranked_3 rfl ?_
  refine fRX10_9 (o := some w) dX10_ranked_4 rfl (by decide) (K.le (by decide)) hs ?_
  refine q_rfS ?_
  refine q_iconst (v := nI 2) dX10_ranked_7 (by decide) ?_
  refine q_ialdN (len := 830) (q_mwt hw) dX10_ranked_8 (q_mwn hw).1 (K.le (q_mwn hw).2) (q_mwl hw) (by omega) (by decide) ?_
  refine q_tv (show _ = (nI (m.c)) from M.c) ?_
  refine q_icmp_geN (by omega) (by omega) (tgt := 122) dX10_ranked_9 rfl (fun c1 => ?_) (fun c2 => ?_)
  · refine q_iconst (v := (-1)) dX10_ranked_122 (by decide) ?_
    refine q_iret dX10_ranked_123 rfl (Or.inl rfl) ?_
    exact q_isI (q_ps_n fun j hj => hf j (by omega)).symm rfl
  · refine q_iconst (v := nI 0) dX10_ranked_12 (by decide) ?_
    refine q_istore_n (L' := [_, _, _, _, _, _, _]) dX10_ranked_13 rfl (by decide) rfl ?_
    refine q_iconst (v := nI 0) dX10_ranked_14 (by decide) ?_
    refine q_istore (L' := [_, _, _, _, _, _, _]) dX10_ranked_15 rfl (by decide) rfl ?_
    refine q_loop (ι := Nat) (μ := fun j => m.c - j) (P := fun j => j ≤ m.c) (Lf := fun j => [some (.ref 1061), some (.int (nI (p))), some (.int (nI (q))), some (.int (nI (q_cn (fun j => decide (m.dy j < m.dy q ∨ (m.dy j = m.dy q ∧ m.id j < m.id q))) j))), some (.int (nI (j))), none, none]) (hf := fun j => h) (fun j hi17 ih17 => ?_) 0 (by omega) (q_sub_s rfl (q_sub_i rfl (q_sub_i rfl (q_sub_i rfl (q_sub_i rfl (q_sub_n (q_sub_n q_sub_0))))))) rfl
    skip
    have hcl := q_cn_le (fun j => decide (m.dy j < m.dy q ∨ (m.dy j = m.dy q ∧ m.id j < m.id q))) j
    refine q_iload dX10_ranked_17 rfl ?_
    refine q_aload_n dX10_ranked_19 rfl ?_
    refine fRX10_9 (o := some w) dX10_ranked_20 rfl (by decide) (K.le (by decide)) hs ?_
    refine q_rfS ?_
    refine q_iconst (v := nI 2) dX10_ranked_23 (by decide) ?_
    refine q_ialdN (len := 830) (q_mwt hw) dX10_ranked_24 (q_mwn hw).1 (K.le (q_mwn hw).2) (q_mwl hw) (by omega) (by decide) ?_
    refine q_tv (show _ = (nI (m.c)) from M.c) ?_
    refine q_icmp_geN (by omega) (by omega) (tgt := 109) dX10_ranked_25 rfl (fun c3 => ?_) (fun c4 => ?_)
    · have hah : q_cn (fun j => decide (m.dy j < m.dy q ∨ (m.dy j = m.dy q ∧ m.id j < m.id q))) j = m.ah q := by rw [show j = m.c by omega]; rfl
      refine q_iload_n dX10_ranked_109 rfl ?_
      refine q_iload_n dX10_ranked_110 rfl ?_
      refine q_icmp_neN (by omega) (by omega) (tgt := 116) dX10_ranked_111 rfl (fun c5 => ?_) (fun c6 => ?_)
      · refine q_iincN (n := 1) (L' := [_, _, _, _, _, _, _]) (by decide) dX10_ranked_116 rfl rfl (by decide) rfl ?_
        refine q_goto (tgt := 2) dX10_ranked_119 rfl ?_
        exact q_to (ih2 (q + 1) (⟨by omega, q_ne_s hf (decide_eq_false (by rw [← hah]; assumption))⟩) (by omega)) (q_sub_s rfl (q_sub_i rfl (q_sub_i rfl (q_sub_n (q_sub_n (q_sub_n (q_sub_n q_sub_0))))))) rfl
      · refine q_iload_n dX10_ranked_114 rfl ?_
        refine q_iret dX10_ranked_115 rfl (Or.inl rfl) ?_
        exact q_isI (q_ps_i (by omega) (decide_eq_true (by rw [← hah]; assumption)) hf).symm rfl
    · refine q_aload_n dX10_ranked_28 rfl ?_
      refine fRX10_9 (o := some w) dX10_ranked_29 rfl (by decide) (K.le (by decide)) hs ?_
      refine q_rfS ?_
      refine q_aload_n dX10_ranked_32 rfl ?_
      refine q_iload dX10_ranked_33 rfl ?_
      refine q_vD (kc := 0) (ks := 0) (g_X10_at (h := h) K (k := j)) wX10_at kX10_75 iX10_at eX10_at rfl rfl (by decide) (K.le (by decide)) (by decide) rfl rfl (Nat.le_of_ble_eq_true rfl) dX10_ranked_35 rfl rfl ?_
      refine q_iconst (v := nI 1) dX10_ranked_38 (by decide) ?_
      refine q_iaddN dX10_ranked_39 ?_
      refine q_ialdN (len := 830) (q_mwt hw) dX10_ranked_40 (q_mwn hw).1 (K.le (q_mwn hw).2) (q_mwl hw) (by omega) (by decide) ?_
      refine q_tv (show _ = (nI (m.dy j)) from ((congrArg (h.I w) (show ((70 + 19 * j) + (1)) = 71 + 19 * j by omega)).trans (M.dy (by omega)))) ?_
      refine q_istore (L' := [_, _, _, _, _, _, _]) dX10_ranked_41 rfl (by decide) rfl ?_
      refine q_aload_n dX10_ranked_43 rfl ?_
      refine fRX10_9 (o := some w) dX10_ranked_44 rfl (by decide) (K.le (by decide)) hs ?_
      refine q_rfS ?_
      refine q_aload_n dX10_ranked_47 rfl ?_
      refine q_iload_n dX10_ranked_48 rfl ?_
      refine q_vD (kc := 0) (ks := 0) (g_X10_at (h := h) K (k := q)) wX10_at kX10_75 iX10_at eX10_at rfl rfl (by decide) (K.le (by decide)) (by decide) rfl rfl (Nat.le_of_ble_eq_true rfl) dX10_ranked_49 rfl rfl ?_
      refine q_iconst (v := nI 1) dX10_ranked_52 (by decide) ?_
      refine q_iaddN dX10_ranked_53 ?_
      refine q_ialdN (len := 830) (q_mwt hw) dX10_ranked_54 (q_mwn hw).1 (K.le (q_mwn hw).2) (q_mwl hw) (by omega) (by decide) ?_
      refine q_tv (show _ = (nI (m.dy q)) from ((congrArg (h.I w) (show ((70 + 19 * q) + (1)) = 71 + 19 * q by omega)).trans (M.dy (by omega)))) ?_
      refine q_istore (L' := [_, _, _, _, _, _, _]) dX10_ranked_55 rfl (by decide) rfl ?_
      have hdj := M.dy9 (k := j) (by omega)
      have hdk := M.dy9 (k := q) (by omega)
      refine q_iload_n dX10_ranked_57 rfl ?_
      refine q_iload dX10_ranked_58 rfl ?_
      refine q_iload dX10_ranked_60 rfl ?_
      refine q_icmp_ltN (by omega) (by omega) (tgt := 96) dX10_ranked_62 rfl (fun c7 => ?_) (fun c8 => ?_)
      · refine q_iconst (v := nI 1) dX10_ranked_96 (by decide) ?_
        refine q_goto (tgt := 101) dX10_ranked_97 rfl ?_
        refine q_iaddN dX10_ranked_101 ?_
        refine q_istore_n (L' := [_, _, _, _, _, _, _]) dX10_ranked_102 rfl (by decide) rfl ?_
        refine q_iincN (n := 1) (L' := [_, _, _, _, _, _, _]) (by decide) dX10_ranked_103 rfl rfl (by decide) rfl ?_
        refine q_goto (tgt := 17) dX10_ranked_106 rfl ?_
        exact q_to (ih17 (j + 1) (by omega) (by omega)) (q_sub_s rfl (q_sub_i rfl (q_sub_i rfl (q_sub_i (by simp only [q_cn]; split <;> first | rfl | (exfalso; simp only [decide_eq_true_eq, Int32.lt_iff_toInt_lt, Int32.le_iff_toInt_le] at *; omega)) (q_sub_i rfl (q_sub_n (q_sub_n q_sub_0))))))) rfl
      · refine q_iload dX10_ranked_65 rfl ?_
        refine q_iload dX10_ranked_67 rfl ?_
        refine q_icmp_neN (by omega) (by omega) (tgt := 100) dX10_ranked_69 rfl (fun c9 => ?_) (fun c10 => ?_)
        · refine q_iconst (v := nI 0) dX10_ranked_100 (by decide) ?_
          refine q_iaddN dX10_ranked_101 ?_
          refine q_istore_n (L' := [_, _, _, _, _, _, _]) dX10_ranked_102 rfl (by decide) rfl ?_
          refine q_iincN (n := 1) (L' := [_, _, _, _, _, _, _]) (by decide) dX10_ranked_103 rfl rfl (by decide) rfl ?_
          refine q_goto (tgt := 17) dX10_ranked_106 rfl ?_
          exact q_to (ih17 (j + 1) (by omega) (by omega)) (q_sub_s rfl (q_sub_i rfl (q_sub_i rfl (q_sub_i (by simp only [q_cn]; split <;> first | rfl | (exfalso; simp only [decide_eq_true_eq, Int32.lt_iff_toInt_lt, Int32.le_iff_toInt_le] at *; omega)) (q_sub_i rfl (q_sub_n (q_sub_n q_sub_0))))))) rfl
        · refine q_aload_n dX10_ranked_72 rfl ?_
          refine fRX10_9 (o := some w) dX10_ranked_73 rfl (by decide) (K.le (by decide)) hs ?_
          refine q_rfS ?_
          refine q_aload_n dX10_ranked_76 rfl ?_
          refine q_iload dX10_ranked_77 rfl ?_
          refine q_vD (kc := 0) (ks := 0) (g_X10_at (h := h) K (k := j)) wX10_at kX10_75 iX10_at eX10_at rfl rfl (by decide) (K.le (by decide)) (by decide) rfl rfl (Nat.le_of_ble_eq_true rfl) dX10_ranked_79 rfl rfl ?_
          refine q_ialdN (len := 830) (q_mwt hw) dX10_ranked_82 (q_mwn hw).1 (K.le (q_mwn hw).2) (q_mwl hw) (by omega) (by decide) ?_
          refine q_tv (show _ = (m.id j) from (M.id (by omega))) ?_
          refine q_aload_n dX10_ranked_83 rfl ?_
          refine fRX10_9 (o := some w) dX10_ranked_84 rfl (by decide) (K.le (by decide)) hs ?_
          refine q_rfS ?_
          refine q_aload_n dX10_ranked_87 rfl ?_
          refine q_iload_n dX10_ranked_88 rfl ?_
          refine q_vD (kc := 0) (ks := 0) (g_X10_at (h := h) K (k := q)) wX10_at kX10_75 iX10_at eX10_at rfl rfl (by decide) (K.le (by decide)) (by decide) rfl rfl (Nat.le_of_ble_eq_true rfl) dX10_ranked_89 rfl rfl ?_
          refine q_ialdN (len := 830) (q_mwt hw) dX10_ranked_92 (q_mwn hw).1 (K.le (q_mwn hw).2) (q_mwl hw) (by omega) (by decide) ?_
          refine q_tv (show _ = (m.id q) from (M.id (by omega))) ?_
          refine q_icmp_ge (tgt := 100) dX10_ranked_93 rfl (fun c11 => ?_) (fun c12 => ?_)
          · refine q_iconst (v := nI 0) dX10_ranked_100 (by decide) ?_
            refine q_iaddN dX10_ranked_101 ?_
            refine q_istore_n (L' := [_, _, _, _, _, _, _]) dX10_ranked_102 rfl (by decide) rfl ?_
            refine q_iincN (n := 1) (L' := [_, _, _, _, _, _, _]) (by decide) dX10_ranked_103 rfl rfl (by decide) rfl ?_
            refine q_goto (tgt := 17) dX10_ranked_106 rfl ?_
            exact q_to (ih17 (j + 1) (by omega) (by omega)) (q_sub_s rfl (q_sub_i rfl (q_sub_i rfl (q_sub_i (by simp only [q_cn]; split <;> first | rfl | (exfalso; simp only [decide_eq_true_eq, Int32.lt_iff_toInt_lt, Int32.le_iff_toInt_le] at *; omega)) (q_sub_i rfl (q_sub_n (q_sub_n q_sub_0))))))) rfl
          · refine q_iconst (v := nI 1) dX10_ranked_96 (by decide) ?_
            refine q_goto (tgt := 101) dX10_ranked_97 rfl ?_
            refine q_iaddN dX10_ranked_101 ?_
            refine q_istore_n (L' := [_, _, _, _, _, _, _]) dX10_ranked_102 rfl (by decide) rfl ?_
            refine q_iincN (n := 1) (L' := [_, _, _, _, _, _, _]) (by decide) dX10_ranked_103 rfl rfl (by decide) rfl ?_
            refine q_goto (tgt := 17) dX10_ranked_106 rfl ?_
            exact q_to (ih17 (j + 1) (by omega) (by omega)) (q_sub_s rfl (q_sub_i rfl (q_sub_i rfl (q_sub_i (by simp only [q_cn]; split <;> first | rfl | (exfalso; simp only [decide_eq_true_eq, Int32.lt_iff_toInt_lt, Int32.le_iff_toInt_le] at *; omega)) (q_sub_i rfl (q_sub_n (q_sub_n q_sub_0))))))) rfl
theorem g_X10_loads {Φ : q_Fx} {h : q_Hp} (K : q_Lk Φ h.R h.n) {w : Nat} (hw : q_mw w) (hs : h.R 1061 0 = some w) {m : q_W} (M : q_rw (h.I w) m) (v : q_val m) (hσ : ∀ i, m.σ i = i) : q_Ct Φ false yX10_loads cX10_loads mX10_loads [.ref 1061] h (q_ex (fun v h' => v = none ∧ q_lf h h' ∧ ∀ k, k < 200 → h'.I 1071 k = m.D k)) := by
  refine q_enter K.st rfl rfl (by decide) rfl (Nat.le_of_ble_eq_true rfl) (L := [_, none]) rfl ?_
  have hw1 := q_mw1 hw
  have hc := M.c40
  refine q_iconst (v := nI 0) dX10_loads_0 (by decide) ?_
  refine q_istore_n (L' := [_, _]) dX10_loads_1 rfl (by decide) rfl ?_
  refine q_loop (ι := Nat) (μ := fun i => 200 - i) (P := fun i => i ≤ 200) (Lf := fun i => [some (.ref 1061), some (.int (nI (i)))]) (hf := fun i => (h.rowI 1071 (q_cpy (fun _ => nI 0) (h.I 1071) i))) (fun i hi2 ih2 => ?_) 0 (by omega) (q_sub_s rfl (q_sub_i rfl q_sub_0)) (by rw [q_cpy_0]; exact (q_rid h 1071).symm)
  skip
  refine q_iload_n dX10_loads_2 rfl ?_
  refine q_sipush (v := nI 199) dX10_loads_3 (by decide) ?_
  refine q_icmp_gtN (by omega) (by omega) (tgt := 22) dX10_loads_6 rfl (fun c1 => ?_) (fun c2 => ?_)
  · refine q_iconst (v := nI 0) dX10_loads_22 (by decide) ?_
    refine q_istore_n (L' := [_, _]) dX10_loads_23 rfl (by decide) rfl ?_
    refine q_loop (ι := Nat × (Nat → Int32)) (μ := fun x => m.c - x.1) (P := fun x => x.1 ≤ m.c) (Lf := fun x => [some (.ref 1061), some (.int (nI (x.1)))]) (hf := fun x => ((h.rowI 1071 (m.dl (h.I 1071) x.1)).rowI 1072 x.2)) (fun x hi24 ih24 => ?_) (0, h.I 1072) (Nat.zero_le _) (q_sub_s rfl (q_sub_i rfl q_sub_0)) (by rw [show i = 200 by omega, show h.I 1072 = (h.rowI 1071 (m.dl (h.I 1071) 0)).I 1072 from rfl, q_rid]; rfl)
    skip
    refine q_iload_n dX10_loads_24 rfl ?_
    refine q_aload_n dX10_loads_25 rfl ?_
    refine fRX10_9 (o := some w) dX10_loads_26 rfl (by decide) (K.le (by decide)) hs ?_
    refine q_rfS ?_
    refine q_iconst (v := nI 2) dX10_loads_29 (by decide) ?_
    refine q_ialdN (len := 830) (q_mwt hw) dX10_loads_30 (q_mwn hw).1 (K.le (q_mwn hw).2) (q_mwl hw) (by omega) (by decide) ?_
    refine q_tv (show _ = (nI (m.c)) from ((congrFun (q_rIn _ _ (by omega)) _).trans ((congrFun (q_rIn _ _ (by omega)) _).trans M.c))) ?_
    refine q_icmp_geN (by omega) (by omega) (tgt := 65) dX10_loads_31 rfl (fun c3 => ?_) (fun c4 => ?_)
    · refine q_vret dX10_loads_65 rfl (Or.inl rfl) ?_
      have e : x.1 = m.c := by omega
      exact ⟨_, rfl, rfl, ⟨fun p a b => by rw [q_rIn _ _ b, q_rIn _ _ a], rfl, rfl, rfl, rfl⟩, fun k hk => by rw [q_rIn _ _ (by omega), q_rI, e]; exact m.dl_in _ _ _ k hk⟩
    · refine q_aload_n dX10_loads_34 rfl ?_
      refine fRX10_21 (o := some 1071) dX10_loads_35 rfl (by decide) (K.le (by decide)) (K.lk rfl) ?_
      refine q_rfS ?_
      refine q_aload_n dX10_loads_38 rfl ?_
      refine fRX10_9 (o := some w) dX10_loads_39 rfl (by decide) (K.le (by decide)) hs ?_
      refine q_rfS ?_
      refine q_aload_n dX10_loads_42 rfl ?_
      refine q_iload_n dX10_loads_43 rfl ?_
      refine q_vD (kc := 0) (ks := 0) (g_X10_at (h := ((h.rowI 1071 (m.dl (h.I 1071) x.1)).rowI 1072 x.2)) K (k := x.1)) wX10_at kX10_75 iX10_at eX10_at rfl rfl (by decide) (K.le (by decide)) (by decide) rfl rfl (Nat.le_of_ble_eq_true rfl) dX10_loads_44 rfl rfl ?_
      refine q_iconst (v := nI 1) dX10_loads_47 (by decide) ?_
      refine q_iaddN dX10_loads_48 ?_
      refine q_ialdN (len := 830) (q_mwt hw) dX10_loads_49 (q_mwn hw).1 (K.le (q_mwn hw).2) (q_mwl hw) (by omega) (by decide) ?_
      refine q_tv (show _ = (nI (m.dy x.1)) from ((congrFun (q_rIn _ _ (by omega)) _).trans ((congrFun (q_rIn _ _ (by omega)) _).trans ((congrArg (h.I w) (show ((70 + 19 * x.1) + (1)) = 71 + 19 * x.1 by omega)).trans (M.dy (by omega)))))) ?_
      have hd := M.dy9 (k := x.1) (by omega)
      refine q_dup2 dX10_loads_50 rfl rfl ?_
      refine q_ialdN (len := 200) rfl dX10_loads_51 (by decide) (K.le (by decide)) rfl (by omega) (by decide) ?_
      refine q_tv (show _ = ((m.dl (h.I 1071) x.1) (m.dy x.1)) from ((congrFun (q_rIn _ _ (by omega)) _).trans (congrFun (q_rI _ _ _) _))) ?_
      refine q_aload_n dX10_loads_52 rfl ?_
      refine q_iload_n dX10_loads_53 rfl ?_
      refine q_vR (kc := 0) (ks := 0) (g_X10_loadAt (h := ((h.rowI 1071 (m.dl (h.I 1071) x.1)).rowI 1072 x.2)) K (hw) hs ((show ((h.rowI 1071 (m.dl (h.I 1071) x.1)).rowI 1072 x.2).I w = h.I w from ((q_rIn _ _ (by omega)).trans (q_rIn _ _ (by omega)))).symm ▸ M) v (k := x.1) (by omega)) wX10_loadAt kX10_66 iX10_loadAt eX10_loadAt rfl rfl (by decide) (K.le (by decide)) (by decide) rfl rfl (Nat.le_of_ble_eq_true rfl) dX10_loads_54 rfl rfl ?_
      rintro v' h' ⟨rfl, g72, rfl⟩
      refine q_iadd dX10_loads_57 ?_
      refine q_iastN (len := 200) rfl dX10_loads_58 (by decide) (K.le (by decide)) rfl (by omega) (by decide) ?_
      refine q_iincN (n := 1) (L' := [_, _]) (by decide) dX10_loads_59 rfl rfl (by decide) rfl ?_
      refine q_goto (tgt := 24) dX10_loads_62 rfl ?_
      exact q_to (ih24 (x.1 + 1, g72) (by show x.1 + 1 ≤ m.c; omega) (by show m.c - (x.1 + 1) < m.c - x.1; omega)) (q_sub_s rfl (q_sub_i rfl q_sub_0)) (by rw [q_rr, q_rset2 _ _ _ _ _ (by decide), q_dl_z m _ _ hσ])
  · refine q_aload_n dX10_loads_9 rfl ?_
    refine fRX10_21 (o := some 1071) dX10_loads_10 rfl (by decide) (K.le (by decide)) (K.lk rfl) ?_
    refine q_rfS ?_
    refine q_iload_n dX10_loads_13 rfl ?_
    refine q_iconst (v := nI 0) dX10_loads_14 (by decide) ?_
    refine q_iastN (len := 200) rfl dX10_loads_15 (by decide) (K.le (by decide)) rfl (by omega) (by decide) ?_
    refine q_iincN (n := 1) (L' := [_, _]) (by decide) dX10_loads_16 rfl rfl (by decide) rfl ?_
    refine q_goto (tgt := 2) dX10_loads_19 rfl ?_
    exact q_to (ih2 (i + 1) (by omega) (by omega)) (q_sub_s rfl (q_sub_i rfl q_sub_0)) (by rw [q_rset, q_cpy_s (fun _ => nI 0)])
theorem g_X10_decayed {Φ : q_Fx} {h : q_Hp} (K : q_Lk Φ h.R h.n) {m : q_W} (hD : ∀ k, k < 200 → h.I 1071 k = m.D k) {x b : Int32} {n : Nat} (hx : x = nI n - nI 1) (hb : ¬ b = 0) (hn : n ≤ 400) : q_Ct Φ false yX10_decayed cX10_decayed mX10_decayed [.ref 1061, .int x, .int b] h (q_is (some (.int (q_dec b m.D2 n))) h) := by
  refine q_enter K.st rfl rfl (by decide) rfl (Nat.le_of_ble_eq_true rfl) (L := [_, _, _, none, none]) rfl ?_
  refine q_iconst (v := nI 0) dX10_decayed_0 (by decide) ?_
  refine q_istore_n (L' := [_, _, _, _, _]) dX10_decayed_1 rfl (by decide) rfl ?_
  refine q_iconst (v := nI 0) dX10_decayed_2 (by decide) ?_
  refine q_istore (L' := [_, _, _, _, _]) dX10_decayed_3 rfl (by decide) rfl ?_
  refine q_loop (ι := Nat) (μ := fun i => n - i) (P := fun i => i ≤ n) (Lf := fun i => [some (.ref 1061), some (.int x), some (.int b), some (.int (q_dec b m.D2 i)), some (.int (nI (i)))]) (hf := fun i => h) (fun i hi5 ih5 => ?_) 0 (by omega) (q_sub_s rfl (q_sub_i rfl (q_sub_i rfl (q_sub_i rfl (q_sub_i rfl q_sub_0))))) rfl
  skip
  refine q_iload dX10_decayed_5 rfl ?_
  refine q_iload_n dX10_decayed_7 rfl ?_
  refine q_icmp_gt (tgt := 47) dX10_decayed_8 rfl (fun c1 => ?_) (fun c2 => ?_)
  · refine q_iload_n dX10_decayed_47 rfl ?_
    refine q_iret dX10_decayed_48 rfl (Or.inl rfl) ?_
    exact q_isI (by rw [show i = n by have := (q_lt1 (i := i) hx (by omega) (by omega)).mp (by assumption); omega]) rfl
  · refine q_iload_n dX10_decayed_11 rfl ?_
    refine q_sipush (v := nI 1000) dX10_decayed_12 (by decide) ?_
    refine q_iload dX10_decayed_15 rfl ?_
    refine q_sipush (v := nI 199) dX10_decayed_17 (by decide) ?_
    refine q_icmp_gtN (by omega) (by omega) (tgt := 33) dX10_decayed_20 rfl (fun c3 => ?_) (fun c4 => ?_)
    · refine q_iconst (v := nI 0) dX10_decayed_33 (by decide) ?_
      refine q_imulN dX10_decayed_34 ?_
      refine q_iload_n dX10_decayed_35 rfl ?_
      refine q_isub dX10_decayed_36 ?_
      refine q_iload_n dX10_decayed_37 rfl ?_
      refine q_idiv dX10_decayed_38 hb ?_
      refine q_iadd dX10_decayed_39 ?_
      refine q_istore_n (L' := [_, _, _, _, _]) dX10_decayed_40 rfl (by decide) rfl ?_
      refine q_iincN (n := 1) (L' := [_, _, _, _, _]) (by decide) dX10_decayed_41 rfl rfl (by decide) rfl ?_
      refine q_goto (tgt := 5) dX10_decayed_44 rfl ?_
      exact q_to (ih5 (i + 1) (by have := mt (q_lt1 (i := i) hx (by omega) (by omega)).mpr (by assumption); omega) (by have := mt (q_lt1 (i := i) hx (by omega) (by omega)).mpr (by assumption); omega)) (q_sub_s rfl (q_sub_i rfl (q_sub_i rfl (q_sub_i (by first | rfl | (rw [show nI (1000 * 0) = nI 1000 * m.D2 i from by rw [show m.D2 i = nI 0 from if_neg (by omega)]; decide]; rfl)) (q_sub_i rfl q_sub_0))))) rfl
    · refine q_aload_n dX10_decayed_23 rfl ?_
      refine fRX10_21 (o := some 1071) dX10_decayed_24 rfl (by decide) (K.le (by decide)) (K.lk rfl) ?_
      refine q_rfS ?_
      refine q_iload dX10_decayed_27 rfl ?_
      refine q_ialdN (len := 200) rfl dX10_decayed_29 (by decide) (K.le (by decide)) rfl (by omega) (by decide) ?_
      refine q_tv (show _ = (m.D2 (i)) from ((hD _ (by omega)).trans (if_pos (show i ≤ 199 by omega)).symm)) ?_
      refine q_goto (tgt := 34) dX10_decayed_30 rfl ?_
      refine q_imul dX10_decayed_34 ?_
      refine q_iload_n dX10_decayed_35 rfl ?_
      refine q_isub dX10_decayed_36 ?_
      refine q_iload_n dX10_decayed_37 rfl ?_
      refine q_idiv dX10_decayed_38 hb ?_
      refine q_iadd dX10_decayed_39 ?_
      refine q_istore_n (L' := [_, _, _, _, _]) dX10_decayed_40 rfl (by decide) rfl ?_
      refine q_iincN (n := 1) (L' := [_, _, _, _, _]) (by decide) dX10_decayed_41 rfl rfl (by decide) rfl ?_
      refine q_goto (tgt := 5) dX10_decayed_44 rfl ?_
      exact q_to (ih5 (i + 1) (by have := mt (q_lt1 (i := i) hx (by omega) (by omega)).mpr (by assumption); omega) (by have := mt (q_lt1 (i := i) hx (by omega) (by omega)).mpr (by assumption); omega)) (q_sub_s rfl (q_sub_i rfl (q_sub_i rfl (q_sub_i (by first | rfl | (rw [show nI (1000 * 0) = nI 1000 * m.D2 i from by rw [show m.D2 i = nI 0 from if_neg (by omega)]; decide]; rfl)) (q_sub_i rfl q_sub_0))))) rfl
theorem g_X10_form {Φ : q_Fx} {h : q_Hp} (K : q_Lk Φ h.R h.n) {m : q_W} (hD : ∀ k, k < 200 → h.I 1071 k = m.D k) {n : Nat} (hn : n ≤ 400) : q_Ct Φ false yX10_form cX10_form mX10_form [.ref 1061, .int (nI (n))] h (q_is (some (.int (q_dec (nI 42) m.D2 n - q_dec (nI 7) m.D2 n))) h) := by
  refine q_enter K.st rfl rfl (by decide) rfl (Nat.le_of_ble_eq_true rfl) (L := [_, _]) rfl ?_
  refine q_aload_n dX10_form_0 rfl ?_
  refine q_iload_n dX10_form_1 rfl ?_
  refine q_iconst (v := nI 1) dX10_form_2 (by decide) ?_
  refine q_isub dX10_form_3 ?_
  refine q_bipush (v := nI 42) dX10_form_4 (by decide) ?_
  refine q_vD (kc := 0) (ks := 0) (g_X10_decayed (h := h) K hD (x := nI n - nI 1) (b := (nI (42))) (n := n) rfl (by decide) hn) wX10_decayed kX10_99 iX10_decayed eX10_decayed rfl rfl (by decide) (K.le (by decide)) (by decide) rfl rfl (Nat.le_of_ble_eq_true rfl) dX10_form_6 rfl rfl ?_
  refine q_aload_n dX10_form_9 rfl ?_
  refine q_iload_n dX10_form_10 rfl ?_
  refine q_iconst (v := nI 1) dX10_form_11 (by decide) ?_
  refine q_isub dX10_form_12 ?_
  refine q_bipush (v := nI 7) dX10_form_13 (by decide) ?_
  refine q_vD (kc := 0) (ks := 0) (g_X10_decayed (h := h) K hD (x := nI n - nI 1) (b := (nI (7))) (n := n) rfl (by decide) hn) wX10_decayed kX10_99 iX10_decayed eX10_decayed rfl rfl (by decide) (K.le (by decide)) (by decide) rfl rfl (Nat.le_of_ble_eq_true rfl) dX10_form_15 rfl rfl ?_
  refine q_isub dX10_form_18 ?_
  refine q_iret dX10_form_19 rfl (Or.inl rfl) ?_
  exact q_isI rfl rfl
theorem g_X10_row {Φ : q_Fx} {h : q_Hp} (K : q_Lk Φ h.R h.n) {m : q_W} (hD : ∀ k, k < 200 → h.I 1071 k = m.D k) {a n : Nat} (hn : a + n ≤ 200) : q_Ct Φ false yX10_row cX10_row mX10_row [.ref 1061, .int (nI (a)), .int (nI (n))] h (q_is (some (.int (q_sum (fun k => m.D (a + k)) n))) h) := by
  refine q_enter K.st rfl rfl (by decide) rfl (Nat.le_of_ble_eq_true rfl) (L := [_, _, _, none, none]) rfl ?_
  refine q_iconst (v := nI 0) dX10_row_0 (by decide) ?_
  refine q_istore_n (L' := [_, _, _, _, _]) dX10_row_1 rfl (by decide) rfl ?_
  refine q_iload_n dX10_row_2 rfl ?_
  refine q_istore (L' := [_, _, _, _, _]) dX10_row_3 rfl (by decide) rfl ?_
  refine q_loop (ι := Nat) (μ := fun i => n - i) (P := fun i => i ≤ n) (Lf := fun i => [some (.ref 1061), some (.int (nI (a))), some (.int (nI (n))), some (.int (q_sum (fun k => m.D (a + k)) i)), some (.int (nI (a + i)))]) (hf := fun i => h) (fun i hi5 ih5 => ?_) 0 (by omega) (q_sub_s rfl (q_sub_i rfl (q_sub_i rfl (q_sub_i rfl (q_sub_i rfl q_sub_0))))) rfl
  skip
  refine q_iload dX10_row_5 rfl ?_
  refine q_iload_n dX10_row_7 rfl ?_
  refine q_iload_n dX10_row_8 rfl ?_
  refine q_iaddN dX10_row_9 ?_
  refine q_icmp_geN (by omega) (by omega) (tgt := 29) dX10_row_10 rfl (fun c1 => ?_) (fun c2 => ?_)
  · refine q_iload_n dX10_row_29 rfl ?_
    refine q_iret dX10_row_30 rfl (Or.inl rfl) ?_
    exact q_isI (by rw [show i = n by omega]) rfl
  · refine q_iload_n dX10_row_13 rfl ?_
    refine q_aload_n dX10_row_14 rfl ?_
    refine fRX10_21 (o := some 1071) dX10_row_15 rfl (by decide) (K.le (by decide)) (K.lk rfl) ?_
    refine q_rfS ?_
    refine q_iload dX10_row_18 rfl ?_
    refine q_ialdN (len := 200) rfl dX10_row_20 (by decide) (K.le (by decide)) rfl (by omega) (by decide) ?_
    refine q_tv (show _ = (m.D (a + i)) from (hD _ (by omega))) ?_
    refine q_iadd dX10_row_21 ?_
    refine q_istore_n (L' := [_, _, _, _, _]) dX10_row_22 rfl (by decide) rfl ?_
    refine q_iincN (n := 1) (L' := [_, _, _, _, _]) (by decide) dX10_row_23 rfl rfl (by decide) rfl ?_
    refine q_goto (tgt := 5) dX10_row_26 rfl ?_
    exact q_to (ih5 (i + 1) (by omega) (by omega)) (q_sub_s rfl (q_sub_i rfl (q_sub_i rfl (q_sub_i rfl (q_sub_i rfl q_sub_0))))) rfl
theorem g_X10_bestRow {Φ : q_Fx} {h : q_Hp} (K : q_Lk Φ h.R h.n) {w : Nat} (hw : q_mw w) (hs : h.R 1061 0 = some w) {m : q_W} (M : q_rw (h.I w) m) (v : q_val m) (hσ : ∀ i, m.σ i = i) {n : Nat} (hn1 : 1 ≤ n) (hn : n ≤ m.t + 1) : q_Ct Φ false yX10_bestRow cX10_bestRow mX10_bestRow [.ref 1061, .int (nI (n))] h (q_ex (fun v h' => v = some (.int (nI (q_br (fun a => q_sum (fun k => m.D (a + k)) n) (m.t + 1 - n)))) ∧ q_lf h h' ∧ ∀ k, k < 200 → h'.I 1071 k = m.D k)) := by
  refine q_enter K.st rfl rfl (by decide) rfl (Nat.le_of_ble_eq_true rfl) (L := [_, _, none, none]) rfl ?_
  have hw1 := q_mw1 hw
  have ht := M.t9
  refine q_aload_n dX10_bestRow_0 rfl ?_
  refine q_vR (kc := 0) (ks := 0) (g_X10_loads (h := h) K (hw) hs (M) v hσ) wX10_loads kX10_96 iX10_loads eX10_loads rfl rfl (by decide) (K.le (by decide)) (by decide) rfl rfl (Nat.le_of_ble_eq_true rfl) dX10_bestRow_1 rfl rfl ?_
  rintro v' h1 ⟨rfl, F1, hD⟩
  have K : q_Lk Φ h1.R h1.n := by rw [F1.2.1, F1.2.2.2.2]; exact K
  have hs0 := hs
  have hs : h1.R 1061 0 = some w := by rw [F1.2.1]; exact hs0
  have M0 := M
  have M : q_rw (h1.I w) m := by rw [F1.1 _ (by omega) (by omega)]; exact M0
  refine q_iconst (v := nI 0) dX10_bestRow_4 (by decide) ?_
  refine q_istore_n (L' := [_, _, _, _]) dX10_bestRow_5 rfl (by decide) rfl ?_
  refine q_iconst (v := nI 1) dX10_bestRow_6 (by decide) ?_
  refine q_istore_n (L' := [_, _, _, _]) dX10_bestRow_7 rfl (by decide) rfl ?_
  refine q_loop (ι := Nat) (μ := fun i => m.t + 1 - n - i) (P := fun i => i ≤ m.t + 1 - n) (Lf := fun i => [some (.ref 1061), some (.int (nI (n))), some (.int (nI (q_br (fun a => q_sum (fun k => m.D (a + k)) n) i))), some (.int (nI (i + 1)))]) (hf := fun i => h1) (fun i hi8 ih8 => ?_) 0 (by omega) (q_sub_s rfl (q_sub_i rfl (q_sub_i rfl (q_sub_i rfl q_sub_0)))) rfl
  skip
  have hbr := q_br_le (fun a => q_sum (fun k => m.D (a + k)) n) i
  refine q_iload_n dX10_bestRow_8 rfl ?_
  refine q_iload_n dX10_bestRow_9 rfl ?_
  refine q_iaddN dX10_bestRow_10 ?_
  refine q_iconst (v := nI 1) dX10_bestRow_11 (by decide) ?_
  refine q_isubN (by omega) dX10_bestRow_12 ?_
  refine q_aload_n dX10_bestRow_13 rfl ?_
  refine fRX10_9 (o := some w) dX10_bestRow_14 rfl (by decide) (K.le (by decide)) hs ?_
  refine q_rfS ?_
  refine q_iconst (v := nI 0) dX10_bestRow_17 (by decide) ?_
  refine q_ialdN (len := 830) (q_mwt hw) dX10_bestRow_18 (q_mwn hw).1 (K.le (q_mwn hw).2) (q_mwl hw) (by omega) (by decide) ?_
  refine q_tv (show _ = (nI (m.t)) from M.t) ?_
  refine q_icmp_gtN (by omega) (by omega) (tgt := 49) dX10_bestRow_19 rfl (fun c1 => ?_) (fun c2 => ?_)
  · refine q_iload_n dX10_bestRow_49 rfl ?_
    refine q_iret dX10_bestRow_50 rfl (Or.inl rfl) ?_
    exact ⟨_, rfl, by rw [show i = m.t + 1 - n by omega], F1, hD⟩
  · refine q_aload_n dX10_bestRow_22 rfl ?_
    refine q_iload_n dX10_bestRow_23 rfl ?_
    refine q_iload_n dX10_bestRow_24 rfl ?_
    refine q_vD (kc := 0) (ks := 0) (g_X10_row (h := h1) K hD (a := i + 1) (n := n) (by omega)) wX10_row kX10_113 iX10_row eX10_row rfl rfl (by decide) (K.le (by decide)) (by decide) rfl rfl (Nat.le_of_ble_eq_true rfl) dX10_bestRow_25 rfl rfl ?_
    refine q_aload_n dX10_bestRow_28 rfl ?_
    refine q_iload_n dX10_bestRow_29 rfl ?_
    refine q_iload_n dX10_bestRow_30 rfl ?_
    refine q_vD (kc := 0) (ks := 0) (g_X10_row (h := h1) K hD (a := q_br (fun a => q_sum (fun k => m.D (a + k)) n) i) (n := n) (by omega)) wX10_row kX10_113 iX10_row eX10_row rfl rfl (by decide) (K.le (by decide)) (by decide) rfl rfl (Nat.le_of_ble_eq_true rfl) dX10_bestRow_31 rfl rfl ?_
    refine q_icmp_le (tgt := 41) dX10_bestRow_34 rfl (fun c3 => ?_) (fun c4 => ?_)
    · refine q_iload_n dX10_bestRow_41 rfl ?_
      refine q_istore_n (L' := [_, _, _, _]) dX10_bestRow_42 rfl (by decide) rfl ?_
      refine q_iincN (n := 1) (L' := [_, _, _, _]) (by decide) dX10_bestRow_43 rfl rfl (by decide) rfl ?_
      refine q_goto (tgt := 8) dX10_bestRow_46 rfl ?_
      exact q_to (ih8 (i + 1) (by omega) (by omega)) (q_sub_s rfl (q_sub_i rfl (q_sub_i (by simp only [q_br]; split <;> first | rfl | (exfalso; simp only [Int32.lt_iff_toInt_lt, Int32.le_iff_toInt_le] at *; omega)) (q_sub_i rfl q_sub_0)))) rfl
    · refine q_iload_n dX10_bestRow_37 rfl ?_
      refine q_goto (tgt := 42) dX10_bestRow_38 rfl ?_
      refine q_istore_n (L' := [_, _, _, _]) dX10_bestRow_42 rfl (by decide) rfl ?_
      refine q_iincN (n := 1) (L' := [_, _, _, _]) (by decide) dX10_bestRow_43 rfl rfl (by decide) rfl ?_
      refine q_goto (tgt := 8) dX10_bestRow_46 rfl ?_
      exact q_to (ih8 (i + 1) (by omega) (by omega)) (q_sub_s rfl (q_sub_i rfl (q_sub_i (by simp only [q_br]; split <;> first | rfl | (exfalso; simp only [Int32.lt_iff_toInt_lt, Int32.le_iff_toInt_le] at *; omega)) (q_sub_i rfl q_sub_0)))) rfl
theorem g_X10_intensity {Φ : q_Fx} {h : q_Hp} (K : q_Lk Φ h.R h.n) {w : Nat} (hw : q_mw w) (hs : h.R 1061 0 = some w) {m : q_W} (M : q_rw (h.I w) m) (v : q_val m) {k x : Nat} (hk : k < 40) (hx : x < m.ml k) : q_Ct Φ false yX10_intensity cX10_intensity mX10_intensity [.ref 1061, .int (nI (k)), .int (nI (x))] h (q_is (some (.int (m.im k x))) h) := by
  refine q_enter K.st rfl rfl (by decide) rfl (Nat.le_of_ble_eq_true rfl) (L := [_, _, _, none, none]) rfl ?_
  have hw1 := q_mw1 hw
  have hp := M.pn8 hk
  have hok := (v.2.2.2.1 k hk).1
  have hmn : ∀ p, p < m.pn k → m.mn k p = nI (m.mn k p).toNatClampNeg := fun p hp => by obtain ⟨k, h1, h2, e⟩ := hok.1 p hp; exact q_nI_clamp h2 e
  have hml : q_cm (m.mn k) (m.pn k) ≤ 240 := hok.2
  have hx2 : x < q_cm (m.mn k) (m.pn k) := hx
  refine q_iload_n dX10_intensity_0 rfl ?_
  refine q_istore_n (L' := [_, _, _, _, _]) dX10_intensity_1 rfl (by decide) rfl ?_
  refine q_iconst (v := nI 0) dX10_intensity_2 (by decide) ?_
  refine q_istore (L' := [_, _, _, _, _]) dX10_intensity_3 rfl (by decide) rfl ?_
  skip
  refine q_loop (ι := Nat) (μ := fun p => m.pn k - p) (P := fun p => p < m.pn k ∧ q_cm (m.mn k) p ≤ x) (Lf := fun p => [some (.ref 1061), some (.int (nI (k))), some (.int (nI (x))), some (.int (nI (x - q_cm (m.mn k) p))), some (.int (nI (p)))]) (hf := fun p => h) (fun p hi5 ih5 => ?_) 0 (⟨Nat.pos_of_ne_zero fun e => by rw [e] at hx2; exact absurd hx2 (Nat.not_lt_zero x), Nat.zero_le _⟩) (q_sub_s rfl (q_sub_i rfl (q_sub_i rfl (q_sub_i rfl (q_sub_i rfl q_sub_0))))) rfl
  skip
  obtain ⟨hpp, hpx⟩ := hi5
  have hcm : q_cm (m.mn k) (p + 1) = q_cm (m.mn k) p + (m.mn k p).toNatClampNeg := rfl
  have hcmm := q_cm_mono (m.mn k) (show p + 1 ≤ m.pn k by omega)
  have hlast : p + 1 = m.pn k → x < q_cm (m.mn k) (p + 1) := fun e => by rw [e]; exact hx2
  refine q_iload_n dX10_intensity_5 rfl ?_
  refine q_aload_n dX10_intensity_6 rfl ?_
  refine fRX10_9 (o := some w) dX10_intensity_7 rfl (by decide) (K.le (by decide)) hs ?_
  refine q_rfS ?_
  refine q_aload_n dX10_intensity_10 rfl ?_
  refine q_iload_n dX10_intensity_11 rfl ?_
  refine q_vD (kc := 0) (ks := 0) (g_X10_at (h := h) K (k := k)) wX10_at kX10_75 iX10_at eX10_at rfl rfl (by decide) (K.le (by decide)) (by decide) rfl rfl (Nat.le_of_ble_eq_true rfl) dX10_intensity_12 rfl rfl ?_
  refine q_iconst (v := nI 3) dX10_intensity_15 (by decide) ?_
  refine q_iaddN dX10_intensity_16 ?_
  refine q_iload dX10_intensity_17 rfl ?_
  refine q_iaddN dX10_intensity_19 ?_
  refine q_ialdN (len := 830) (q_mwt hw) dX10_intensity_20 (q_mwn hw).1 (K.le (q_mwn hw).2) (q_mwl hw) (by omega) (by decide) ?_
  refine q_tv (show _ = (nI ((m.mn k p).toNatClampNeg)) from ((congrArg (h.I w) (show (((70 + 19 * k) + (3)) + (p)) = 73 + 19 * k + p by omega)).trans ((M.mn hk (p := p) (by omega)).trans (hmn p (by omega))))) ?_
  refine q_icmp_ltN (by omega) (by omega) (tgt := 48) dX10_intensity_21 rfl (fun c1 => ?_) (fun c2 => ?_)
  · refine q_aload_n dX10_intensity_48 rfl ?_
    refine fRX10_9 (o := some w) dX10_intensity_49 rfl (by decide) (K.le (by decide)) hs ?_
    refine q_rfS ?_
    refine q_aload_n dX10_intensity_52 rfl ?_
    refine q_iload_n dX10_intensity_53 rfl ?_
    refine q_vD (kc := 0) (ks := 0) (g_X10_at (h := h) K (k := k)) wX10_at kX10_75 iX10_at eX10_at rfl rfl (by decide) (K.le (by decide)) (by decide) rfl rfl (Nat.le_of_ble_eq_true rfl) dX10_intensity_54 rfl rfl ?_
    refine q_iconst (v := nI 3) dX10_intensity_57 (by decide) ?_
    refine q_iaddN dX10_intensity_58 ?_
    refine q_bipush (v := nI 8) dX10_intensity_59 (by decide) ?_
    refine q_iaddN dX10_intensity_61 ?_
    refine q_iload dX10_intensity_62 rfl ?_
    refine q_iaddN dX10_intensity_64 ?_
    refine q_ialdN (len := 830) (q_mwt hw) dX10_intensity_65 (q_mwn hw).1 (K.le (q_mwn hw).2) (q_mwl hw) (by omega) (by decide) ?_
    refine q_tv (show _ = (m.it k p) from ((congrArg (h.I w) (show ((((70 + 19 * k) + (3)) + (8)) + (p)) = 81 + 19 * k + p by omega)).trans (M.it hk (p := p) (by omega)))) ?_
    refine q_iret dX10_intensity_66 rfl (Or.inl rfl) ?_
    exact q_isI (q_im_at (m.mn k) (m.it k) _ (by omega) hpx (by omega)).symm rfl
  · refine q_iload_n dX10_intensity_24 rfl ?_
    refine q_aload_n dX10_intensity_25 rfl ?_
    refine fRX10_9 (o := some w) dX10_intensity_26 rfl (by decide) (K.le (by decide)) hs ?_
    refine q_rfS ?_
    refine q_aload_n dX10_intensity_29 rfl ?_
    refine q_iload_n dX10_intensity_30 rfl ?_
    refine q_vD (kc := 0) (ks := 0) (g_X10_at (h := h) K (k := k)) wX10_at kX10_75 iX10_at eX10_at rfl rfl (by decide) (K.le (by decide)) (by decide) rfl rfl (Nat.le_of_ble_eq_true rfl) dX10_intensity_31 rfl rfl ?_
    refine q_iconst (v := nI 3) dX10_intensity_34 (by decide) ?_
    refine q_iaddN dX10_intensity_35 ?_
    refine q_iload dX10_intensity_36 rfl ?_
    refine q_iaddN dX10_intensity_38 ?_
    refine q_ialdN (len := 830) (q_mwt hw) dX10_intensity_39 (q_mwn hw).1 (K.le (q_mwn hw).2) (q_mwl hw) (by omega) (by decide) ?_
    refine q_tv (show _ = (nI ((m.mn k p).toNatClampNeg)) from ((congrArg (h.I w) (show (((70 + 19 * k) + (3)) + (p)) = 73 + 19 * k + p by omega)).trans ((M.mn hk (p := p) (by omega)).trans (hmn p (by omega))))) ?_
    refine q_isubN (by omega) dX10_intensity_40 ?_
    refine q_istore_n (L' := [_, _, _, _, _]) dX10_intensity_41 rfl (by decide) rfl ?_
    refine q_iincN (n := 1) (L' := [_, _, _, _, _]) (by decide) dX10_intensity_42 rfl rfl (by decide) rfl ?_
    refine q_goto (tgt := 5) dX10_intensity_45 rfl ?_
    skip
    exact q_to (ih5 (p + 1) (⟨by omega, by omega⟩) (by omega)) (q_sub_s rfl (q_sub_i rfl (q_sub_i rfl (q_sub_i (congrArg nI (by rw [hcm]; omega)) (q_sub_i rfl q_sub_0))))) rfl
theorem g_X10_effort {Φ : q_Fx} {h : q_Hp} (K : q_Lk Φ h.R h.n) {w : Nat} (hw : q_mw w) (hs : h.R 1061 0 = some w) {m : q_W} (M : q_rw (h.I w) m) (v : q_val m) {k n : Nat} (hk : k < 40) (hn1 : 1 ≤ n) (hn : n ≤ 240) : q_Ct Φ false yX10_effort cX10_effort mX10_effort [.ref 1061, .int (nI (k)), .int (nI (n))] h (q_is (some (.int (m.ef k n))) h) := by
  refine q_enter K.st rfl rfl (by decide) rfl (Nat.le_of_ble_eq_true rfl) (L := [_, _, _, none, none, none, none]) rfl ?_
  have hw1 := q_mw1 hw
  have hok := (v.2.2.2.1 k hk).1
  have hml : m.ml k ≤ 240 := hok.2
  refine q_aload_n dX10_effort_0 rfl ?_
  refine q_iload_n dX10_effort_1 rfl ?_
  refine q_vD (kc := 0) (ks := 0) (g_X10_minutes (h := h) K hw hs M (k := k) hk) wX10_minutes kX10_87 iX10_minutes eX10_minutes rfl rfl (by decide) (K.le (by decide)) (by decide) rfl rfl (Nat.le_of_ble_eq_true rfl) dX10_effort_2 rfl rfl ?_
  rw [q_W.len_ml hok]
  refine q_istore_n (L' := [_, _, _, _, _, _, _]) dX10_effort_5 rfl (by decide) rfl ?_
  refine q_iconst (v := (-1)) dX10_effort_6 (by decide) ?_
  refine q_istore (L' := [_, _, _, _, _, _, _]) dX10_effort_7 rfl (by decide) rfl ?_
  refine q_iconst (v := nI 0) dX10_effort_9 (by decide) ?_
  refine q_istore (L' := [_, _, _, _, _, _, _]) dX10_effort_10 rfl (by decide) rfl ?_
  refine q_iconst (v := nI 0) dX10_effort_12 (by decide) ?_
  refine q_istore (L' := [_, _, _, _, _, _, _]) dX10_effort_13 rfl (by decide) rfl ?_
  refine q_loop (ι := Nat) (μ := fun i => m.ml k - i) (P := fun i => i ≤ m.ml k) (Lf := fun i => [some (.ref 1061), some (.int (nI (k))), some (.int (nI (n))), some (.int (nI (m.ml k))), some (.int (q_eb (m.im k) n i)), some (.int (q_es (m.im k) n i)), some (.int (nI (i)))]) (hf := fun i => h) (fun i hi15 ih15 => ?_) 0 (by omega) (q_sub_s rfl (q_sub_i rfl (q_sub_i rfl (q_sub_i rfl (q_sub_i rfl (q_sub_i rfl (q_sub_i rfl q_sub_0))))))) rfl
  skip
  refine q_iload dX10_effort_15 rfl ?_
  refine q_iload_n dX10_effort_17 rfl ?_
  refine q_icmp_geN (by omega) (by omega) (tgt := 81) dX10_effort_18 rfl (fun c1 => ?_) (fun c2 => ?_)
  · refine q_iload dX10_effort_81 rfl ?_
    refine q_iret dX10_effort_83 rfl (Or.inl rfl) ?_
    exact q_isI (by rw [show i = m.ml k by omega, q_eb_mx _ _ hn1]; rfl) rfl
  · refine q_iload dX10_effort_21 rfl ?_
    refine q_aload_n dX10_effort_23 rfl ?_
    refine q_iload_n dX10_effort_24 rfl ?_
    refine q_iload dX10_effort_25 rfl ?_
    refine q_vD (kc := 0) (ks := 0) (g_X10_intensity (h := h) K (hw) hs (M) v (k := k) (x := i) (by omega) (by omega)) wX10_intensity kX10_125 iX10_intensity eX10_intensity rfl rfl (by decide) (K.le (by decide)) (by decide) rfl rfl (Nat.le_of_ble_eq_true rfl) dX10_effort_27 rfl rfl ?_
    refine q_iload dX10_effort_30 rfl ?_
    refine q_iload_n dX10_effort_32 rfl ?_
    refine q_icmp_geN (by omega) (by omega) (tgt := 40) dX10_effort_33 rfl (fun c3 => ?_) (fun c4 => ?_)
    · refine q_aload_n dX10_effort_40 rfl ?_
      refine q_iload_n dX10_effort_41 rfl ?_
      refine q_iload dX10_effort_42 rfl ?_
      refine q_iload_n dX10_effort_44 rfl ?_
      refine q_isubN (by omega) dX10_effort_45 ?_
      refine q_vD (kc := 0) (ks := 0) (g_X10_intensity (h := h) K (hw) hs (M) v (k := k) (x := (i) - (n)) (by omega) (by omega)) wX10_intensity kX10_125 iX10_intensity eX10_intensity rfl rfl (by decide) (K.le (by decide)) (by decide) rfl rfl (Nat.le_of_ble_eq_true rfl) dX10_effort_46 rfl rfl ?_
      refine q_isub dX10_effort_49 ?_
      refine q_iadd dX10_effort_50 ?_
      refine q_istore (L' := [_, _, _, _, _, _, _]) dX10_effort_51 rfl (by decide) rfl ?_
      refine q_iload dX10_effort_53 rfl ?_
      refine q_iload_n dX10_effort_55 rfl ?_
      refine q_iconst (v := nI 1) dX10_effort_56 (by decide) ?_
      refine q_isubN (by omega) dX10_effort_57 ?_
      refine q_icmp_ltN (by omega) (by omega) (tgt := 71) dX10_effort_58 rfl (fun c5 => ?_) (fun c6 => ?_)
      · refine q_iload dX10_effort_71 rfl ?_
        refine q_istore (L' := [_, _, _, _, _, _, _]) dX10_effort_73 rfl (by decide) rfl ?_
        refine q_iincN (n := 1) (L' := [_, _, _, _, _, _, _]) (by decide) dX10_effort_75 rfl rfl (by decide) rfl ?_
        refine q_goto (tgt := 15) dX10_effort_78 rfl ?_
        exact q_to (ih15 (i + 1) (by omega) (by omega)) (q_sub_s rfl (q_sub_i rfl (q_sub_i rfl (q_sub_i rfl (q_sub_i (by simp only [q_eb, q_es]; (repeat' split) <;> first | rfl | (exfalso; omega) | (exfalso; simp only [Int32.lt_iff_toInt_lt, Int32.le_iff_toInt_le] at *; omega)) (q_sub_i (by simp only [q_es]; split <;> first | rfl | (exfalso; omega)) (q_sub_i rfl q_sub_0))))))) rfl
      · refine q_iload dX10_effort_61 rfl ?_
        refine q_iload dX10_effort_63 rfl ?_
        refine q_max kX10_128 dX10_effort_65 (by decide) (by decide) ?_
        refine q_goto (tgt := 73) dX10_effort_68 rfl ?_
        refine q_istore (L' := [_, _, _, _, _, _, _]) dX10_effort_73 rfl (by decide) rfl ?_
        refine q_iincN (n := 1) (L' := [_, _, _, _, _, _, _]) (by decide) dX10_effort_75 rfl rfl (by decide) rfl ?_
        refine q_goto (tgt := 15) dX10_effort_78 rfl ?_
        exact q_to (ih15 (i + 1) (by omega) (by omega)) (q_sub_s rfl (q_sub_i rfl (q_sub_i rfl (q_sub_i rfl (q_sub_i (by simp only [q_eb, q_es]; (repeat' split) <;> first | rfl | (exfalso; omega) | (exfalso; simp only [Int32.lt_iff_toInt_lt, Int32.le_iff_toInt_le] at *; omega)) (q_sub_i (by simp only [q_es]; split <;> first | rfl | (exfalso; omega)) (q_sub_i rfl q_sub_0))))))) rfl
    · refine q_iconst (v := nI 0) dX10_effort_36 (by decide) ?_
      refine q_goto (tgt := 49) dX10_effort_37 rfl ?_
      refine q_isub dX10_effort_49 ?_
      refine q_iadd dX10_effort_50 ?_
      refine q_istore (L' := [_, _, _, _, _, _, _]) dX10_effort_51 rfl (by decide) rfl ?_
      refine q_iload dX10_effort_53 rfl ?_
      refine q_iload_n dX10_effort_55 rfl ?_
      refine q_iconst (v := nI 1) dX10_effort_56 (by decide) ?_
      refine q_isubN (by omega) dX10_effort_57 ?_
      refine q_icmp_ltN (by omega) (by omega) (tgt := 71) dX10_effort_58 rfl (fun c7 => ?_) (fun c8 => ?_)
      · refine q_iload dX10_effort_71 rfl ?_
        refine q_istore (L' := [_, _, _, _, _, _, _]) dX10_effort_73 rfl (by decide) rfl ?_
        refine q_iincN (n := 1) (L' := [_, _, _, _, _, _, _]) (by decide) dX10_effort_75 rfl rfl (by decide) rfl ?_
        refine q_goto (tgt := 15) dX10_effort_78 rfl ?_
        exact q_to (ih15 (i + 1) (by omega) (by omega)) (q_sub_s rfl (q_sub_i rfl (q_sub_i rfl (q_sub_i rfl (q_sub_i (by simp only [q_eb, q_es]; (repeat' split) <;> first | rfl | (exfalso; omega) | (exfalso; simp only [Int32.lt_iff_toInt_lt, Int32.le_iff_toInt_le] at *; omega)) (q_sub_i (by simp only [q_es]; split <;> first | rfl | (exfalso; omega)) (q_sub_i rfl q_sub_0))))))) rfl
      · refine q_iload dX10_effort_61 rfl ?_
        refine q_iload dX10_effort_63 rfl ?_
        refine q_max kX10_128 dX10_effort_65 (by decide) (by decide) ?_
        refine q_goto (tgt := 73) dX10_effort_68 rfl ?_
        refine q_istore (L' := [_, _, _, _, _, _, _]) dX10_effort_73 rfl (by decide) rfl ?_
        refine q_iincN (n := 1) (L' := [_, _, _, _, _, _, _]) (by decide) dX10_effort_75 rfl rfl (by decide) rfl ?_
        refine q_goto (tgt := 15) dX10_effort_78 rfl ?_
        exact q_to (ih15 (i + 1) (by omega) (by omega)) (q_sub_s rfl (q_sub_i rfl (q_sub_i rfl (q_sub_i rfl (q_sub_i (by simp only [q_eb, q_es]; (repeat' split) <;> first | rfl | (exfalso; omega) | (exfalso; simp only [Int32.lt_iff_toInt_lt, Int32.le_iff_toInt_le] at *; omega)) (q_sub_i (by simp only [q_es]; split <;> first | rfl | (exfalso; omega)) (q_sub_i rfl q_sub_0))))))) rfl
theorem g_X10_strongest {Φ : q_Fx} {h : q_Hp} (K : q_Lk Φ h.R h.n) {w : Nat} (hw : q_mw w) (hs : h.R 1061 0 = some w) {m : q_W} (M : q_rw (h.I w) m) (v : q_val m) {rk : Nat → Nat} (hrk : ∀ r, r < m.c → q_ps (fun k => decide (m.ah k = r)) m.c = nI (rk r) ∧ rk r < m.c) {n : Nat} (hn1 : 1 ≤ n) (hn : n ≤ 240) : q_Ct Φ false yX10_strongest cX10_strongest mX10_strongest [.ref 1061, .int (nI (n))] h (q_is (some (.int (q_on (q_sg (fun k => m.ef k n) rk m.c)))) h) := by
  refine q_enter K.st rfl rfl (by decide) rfl (Nat.le_of_ble_eq_true rfl) (L := [_, _, none, none, none, none]) rfl ?_
  have hw1 := q_mw1 hw
  have hc := M.c40
  refine q_iconst (v := (-1)) dX10_strongest_0 (by decide) ?_
  refine q_istore_n (L' := [_, _, _, _, _, _]) dX10_strongest_1 rfl (by decide) rfl ?_
  refine q_iconst (v := nI 0) dX10_strongest_2 (by decide) ?_
  refine q_istore_n (L' := [_, _, _, _, _, _]) dX10_strongest_3 rfl (by decide) rfl ?_
  refine q_loop (ι := Nat) (μ := fun r => m.c - r) (P := fun r => r ≤ m.c) (Lf := fun r => [some (.ref 1061), some (.int (nI (n))), some (.int (q_on (q_sg (fun k => m.ef k n) rk r))), some (.int (nI (r))), none, none]) (hf := fun r => h) (fun r hi4 ih4 => ?_) 0 (by omega) (q_sub_s rfl (q_sub_i rfl (q_sub_i rfl (q_sub_i rfl (q_sub_n (q_sub_n q_sub_0)))))) rfl
  skip
  refine q_iload_n dX10_strongest_4 rfl ?_
  refine q_aload_n dX10_strongest_5 rfl ?_
  refine fRX10_9 (o := some w) dX10_strongest_6 rfl (by decide) (K.le (by decide)) hs ?_
  refine q_rfS ?_
  refine q_iconst (v := nI 2) dX10_strongest_9 (by decide) ?_
  refine q_ialdN (len := 830) (q_mwt hw) dX10_strongest_10 (q_mwn hw).1 (K.le (q_mwn hw).2) (q_mwl hw) (by omega) (by decide) ?_
  refine q_tv (show _ = (nI (m.c)) from M.c) ?_
  refine q_icmp_geN (by omega) (by omega) (tgt := 63) dX10_strongest_11 rfl (fun c1 => ?_) (fun c2 => ?_)
  · refine q_iload_n dX10_strongest_63 rfl ?_
    refine q_iret dX10_strongest_64 rfl (Or.inl rfl) ?_
    exact q_isI (by rw [show r = m.c by omega]) rfl
  · refine q_aload_n dX10_strongest_14 rfl ?_
    refine q_iload_n dX10_strongest_15 rfl ?_
    refine q_vD (kc := 0) (ks := 0) (g_X10_ranked (h := h) K hw hs M (p := r) (by omega)) wX10_ranked kX10_93 iX10_ranked eX10_ranked rfl rfl (by decide) (K.le (by decide)) (by decide) rfl rfl (Nat.le_of_ble_eq_true rfl) dX10_strongest_16 rfl rfl ?_
    rw [(hrk r (by omega)).1]
    have hrr := (hrk r (by omega)).2
    refine q_istore (L' := [_, _, _, _, _, _]) dX10_strongest_19 rfl (by decide) rfl ?_
    refine q_aload_n dX10_strongest_21 rfl ?_
    refine q_iload dX10_strongest_22 rfl ?_
    refine q_iload_n dX10_strongest_24 rfl ?_
    refine q_vD (kc := 0) (ks := 0) (g_X10_effort (h := h) K (hw) hs (M) v (k := rk r) (n := n) (by omega) (by omega) (by omega)) wX10_effort kX10_131 iX10_effort eX10_effort rfl rfl (by decide) (K.le (by decide)) (by decide) rfl rfl (Nat.le_of_ble_eq_true rfl) dX10_strongest_25 rfl rfl ?_
    refine q_istore (L' := [_, _, _, _, _, _]) dX10_strongest_28 rfl (by decide) rfl ?_
    refine q_iload dX10_strongest_30 rfl ?_
    refine q_if_lt (tgt := 55) dX10_strongest_32 rfl (fun c3 => ?_) (fun c4 => ?_)
    · refine q_iload_n dX10_strongest_55 rfl ?_
      refine q_istore_n (L' := [_, _, _, _, _, _]) dX10_strongest_56 rfl (by decide) rfl ?_
      refine q_iincN (n := 1) (L' := [_, _, _, _, _, _]) (by decide) dX10_strongest_57 rfl rfl (by decide) rfl ?_
      refine q_goto (tgt := 4) dX10_strongest_60 rfl ?_
      exact q_to (ih4 (r + 1) (by omega) (by omega)) (q_sub_s rfl (q_sub_i rfl (q_sub_i (by first | exact (q_sgA (f := fun k => m.ef k n) (by assumption)).symm | exact (q_sgB (f := fun k => m.ef k n) (fun b hb => by have := q_sg_lt (fun r hr => (hrk r hr).2) r (by omega) b hb; omega) (by assumption) (by assumption)).symm | exact (q_sgC (f := fun k => m.ef k n) (by assumption) hb (Int32.not_le.mp (by assumption))).symm | exact (q_sgD (f := fun k => m.ef k n) (by assumption) hb (by assumption)).symm) (q_sub_i rfl (q_sub_n (q_sub_n q_sub_0)))))) rfl
    · refine q_iload_n dX10_strongest_35 rfl ?_
      refine q_if_lt (tgt := 50) dX10_strongest_36 rfl (fun c5 => ?_) (fun c6 => ?_)
      · refine q_iload dX10_strongest_50 rfl ?_
        refine q_goto (tgt := 56) dX10_strongest_52 rfl ?_
        refine q_istore_n (L' := [_, _, _, _, _, _]) dX10_strongest_56 rfl (by decide) rfl ?_
        refine q_iincN (n := 1) (L' := [_, _, _, _, _, _]) (by decide) dX10_strongest_57 rfl rfl (by decide) rfl ?_
        refine q_goto (tgt := 4) dX10_strongest_60 rfl ?_
        exact q_to (ih4 (r + 1) (by omega) (by omega)) (q_sub_s rfl (q_sub_i rfl (q_sub_i (by first | exact (q_sgA (f := fun k => m.ef k n) (by assumption)).symm | exact (q_sgB (f := fun k => m.ef k n) (fun b hb => by have := q_sg_lt (fun r hr => (hrk r hr).2) r (by omega) b hb; omega) (by assumption) (by assumption)).symm | exact (q_sgC (f := fun k => m.ef k n) (by assumption) hb (Int32.not_le.mp (by assumption))).symm | exact (q_sgD (f := fun k => m.ef k n) (by assumption) hb (by assumption)).symm) (q_sub_i rfl (q_sub_n (q_sub_n q_sub_0)))))) rfl
      · obtain ⟨b, hb⟩ := q_sg_some (by assumption)
        have hbc := q_sg_lt (fun r hr => (hrk r hr).2) r (by omega) b hb
        rw [hb]
        show q_G _ _ _ _ _ _ _ [_, _, some (.int (nI b)), _, _, _] _ _ _ _
        refine q_iload dX10_strongest_39 rfl ?_
        refine q_aload_n dX10_strongest_41 rfl ?_
        refine q_iload_n dX10_strongest_42 rfl ?_
        refine q_iload_n dX10_strongest_43 rfl ?_
        refine q_vD (kc := 0) (ks := 0) (g_X10_effort (h := h) K (hw) hs (M) v (k := b) (n := n) (by omega) (by omega) (by omega)) wX10_effort kX10_131 iX10_effort eX10_effort rfl rfl (by decide) (K.le (by decide)) (by decide) rfl rfl (Nat.le_of_ble_eq_true rfl) dX10_strongest_44 rfl rfl ?_
        refine q_icmp_le (tgt := 55) dX10_strongest_47 rfl (fun c7 => ?_) (fun c8 => ?_)
        · refine q_iload_n dX10_strongest_55 rfl ?_
          refine q_istore_n (L' := [_, _, _, _, _, _]) dX10_strongest_56 rfl (by decide) rfl ?_
          refine q_iincN (n := 1) (L' := [_, _, _, _, _, _]) (by decide) dX10_strongest_57 rfl rfl (by decide) rfl ?_
          refine q_goto (tgt := 4) dX10_strongest_60 rfl ?_
          exact q_to (ih4 (r + 1) (by omega) (by omega)) (q_sub_s rfl (q_sub_i rfl (q_sub_i (by first | exact (q_sgA (f := fun k => m.ef k n) (by assumption)).symm | exact (q_sgB (f := fun k => m.ef k n) (fun b hb => by have := q_sg_lt (fun r hr => (hrk r hr).2) r (by omega) b hb; omega) (by assumption) (by assumption)).symm | exact (q_sgC (f := fun k => m.ef k n) (by assumption) hb (Int32.not_le.mp (by assumption))).symm | exact (q_sgD (f := fun k => m.ef k n) (by assumption) hb (by assumption)).symm) (q_sub_i rfl (q_sub_n (q_sub_n q_sub_0)))))) rfl
        · refine q_iload dX10_strongest_50 rfl ?_
          refine q_goto (tgt := 56) dX10_strongest_52 rfl ?_
          refine q_istore_n (L' := [_, _, _, _, _, _]) dX10_strongest_56 rfl (by decide) rfl ?_
          refine q_iincN (n := 1) (L' := [_, _, _, _, _, _]) (by decide) dX10_strongest_57 rfl rfl (by decide) rfl ?_
          refine q_goto (tgt := 4) dX10_strongest_60 rfl ?_
          exact q_to (ih4 (r + 1) (by omega) (by omega)) (q_sub_s rfl (q_sub_i rfl (q_sub_i (by first | exact (q_sgA (f := fun k => m.ef k n) (by assumption)).symm | exact (q_sgB (f := fun k => m.ef k n) (fun b hb => by have := q_sg_lt (fun r hr => (hrk r hr).2) r (by omega) b hb; omega) (by assumption) (by assumption)).symm | exact (q_sgC (f := fun k => m.ef k n) (by assumption) hb (Int32.not_le.mp (by assumption))).symm | exact (q_sgD (f := fun k => m.ef k n) (by assumption) hb (by assumption)).symm) (q_sub_i rfl (q_sub_n (q_sub_n q_sub_0)))))) rfl
