/-! what is valid: tests' thresholds, bounds, weights, parts -/
def q_val (m : q_W) : Prop :=
  (∀ i, i < m.n → ∃ k : Nat, 50 ≤ k ∧ k ≤ 400 ∧ m.v i = nI k) ∧ (∀ z, 2 ≤ z → z ≤ 5 → ∃ b : Nat, 1 ≤ b ∧ b ≤ 300 ∧ m.bd z = nI b) ∧ (∀ z, 1 ≤ z → z ≤ 5 → ∃ w : Nat, w ≤ 100 ∧ m.wt z = nI w) ∧
  (∀ k, k < 40 → m.okS k ∧ ∀ p, p < m.pn k → ∃ x : Nat, x ≤ 500 ∧ m.it k p = nI x) ∧ (∀ i, i < m.n → ∃ k : Nat, k ≤ 199 ∧ m.d i = nI k) ∧ (∀ e, e < m.pc → ∃ x : Nat, x ≤ 20000 ∧ m.tg e = nI x) ∧ (m.pe = 0 → m.pc = 0)
theorem q_thr_v {m : q_W} (v : q_val m) (day : Int32) : ∃ t : Nat, 50 ≤ t ∧ t ≤ 400 ∧ m.th day = nI t := by
  have key : ∀ n, n ≤ m.n → ∃ t : Nat, 50 ≤ t ∧ t ≤ 400 ∧ (q_thr m.d m.v day n).2 = nI t := by
    intro n
    induction n with
    | zero => intro _; exact ⟨200, by omega, by omega, show (200 : Int32) = nI 200 from by decide⟩
    | succ n ih =>
      intro hn
      unfold q_thr
      split
      · exact v.1 n (by omega)
      · exact ih (by omega)
  exact key _ (Nat.le_refl _)
/-- the reference's zone: of n zones from 2 on the last whose bound is at most the percent -/
def q_zf (bd : Nat → Int32) (pc : Int32) : Nat → Nat
  | 0 => 1
  | n + 1 => if bd (n + 2) ≤ pc then n + 2 else q_zf bd pc n
theorem q_zf_le (bd : Nat → Int32) (pc : Int32) (n : Nat) : 1 ≤ q_zf bd pc n ∧ q_zf bd pc n ≤ n + 1 := by
  induction n with
  | zero => exact ⟨Nat.le_refl _, Nat.le_refl _⟩
  | succ n ih => unfold q_zf; split <;> omega
theorem q_zf_zn {m : q_W} (v : q_val m) {x t : Nat} (hx : x ≤ 500) (ht : 50 ≤ t) (ht4 : t ≤ 400) : q_zf m.bd (nI 100 * nI x / nI t) 4 = q_zn m.bd (nI x) (nI t) := by
  have key : ∀ z, 2 ≤ z → z ≤ 5 → (m.bd z ≤ nI 100 * nI x / nI t ↔ m.bd z * nI t ≤ nI 100 * nI x) := by
    intro z h2 h5
    obtain ⟨b, hb1, hb3, e⟩ := v.2.1 z h2 h5
    have hbt : b * t ≤ 300 * 400 := Nat.mul_le_mul hb3 ht4
    have hq : 100 * x / t ≤ 100 * x := Nat.div_le_self _ _
    rw [e, pk_mul, pk_mul, pk_div (by omega) (by omega) (by omega), nI_leI (by omega) (by omega), nI_leI (by omega) (by omega)]
    exact Nat.le_div_iff_mul_le (by omega)
  unfold q_zn
  simp only [← key 5 (by omega) (by omega), ← key 4 (by omega) (by omega), ← key 3 (by omega) (by omega), ← key 2 (by omega) (by omega)]
  rfl
theorem q_sum5 (g w : Nat → Int32) (j : Nat) (a : Int32) (h1 : 1 ≤ j) (h5 : j ≤ 5) : q_sum (fun z => va_up g j (g j + a) (z + 1) * w (z + 1)) 5 = q_sum (fun z => g (z + 1) * w (z + 1)) 5 + a * w j := by
  rcases (show j = 1 ∨ j = 2 ∨ j = 3 ∨ j = 4 ∨ j = 5 by omega) with rfl | rfl | rfl | rfl | rfl <;>
  · simp only [q_sum, va_up]
    simp only [Nat.zero_add, Nat.reduceAdd, Nat.reduceEqDiff, if_true, if_false, Int32.add_mul]
    ac_rfl
theorem q_W.ld_z {m : q_W} (g : Nat → Int32) (hg : ∀ z, z < 6 → g z = nI 0) (k : Nat) : q_sum (fun z => q_az g (m.z k) (m.mn k) (m.pn k) (z + 1) * m.wt (z + 1)) 5 = m.ld k := by
  have key : ∀ n, q_sum (fun z => q_az g (m.z k) (m.mn k) n (z + 1) * m.wt (z + 1)) 5 = q_sum (fun p => m.mn k p * m.wt (m.z k p)) n := by
    intro n
    induction n with
    | zero =>
      show q_sum (fun z => g (z + 1) * m.wt (z + 1)) 5 = 0
      rw [q_sum_cong (g := fun _ => 0) fun z hz => by rw [hg (z + 1) (by omega)]; exact Int32.zero_mul]
      rfl
    | succ n ih =>
      have hz : 1 ≤ m.z k n ∧ m.z k n ≤ 5 := q_zn_le m.bd (m.it k n) (m.lt k)
      show q_sum (fun z => va_up (q_az g (m.z k) (m.mn k) n) (m.z k n) (q_az g (m.z k) (m.mn k) n (m.z k n) + m.mn k n) (z + 1) * m.wt (z + 1)) 5 = _
      rw [q_sum5 _ _ _ _ hz.1 hz.2, ih]
      rfl
  exact key _
/-- the last of n that p holds of; -1 if there is none -/
def q_pl (p : Nat → Bool) : Nat → Int32
  | 0 => -1
  | n + 1 => if p n then nI n else q_pl p n
theorem q_pl_c (p : Nat → Bool) (n : Nat) : (∃ i, i < n ∧ p i = true ∧ (∀ j, i < j → j < n → p j = false) ∧ q_pl p n = nI i) ∨ ((∀ j, j < n → p j = false) ∧ q_pl p n = -1) := by
  induction n with
  | zero => exact Or.inr ⟨fun j hj => absurd hj (Nat.not_lt_zero j), rfl⟩
  | succ n ih =>
    unfold q_pl
    by_cases e : p n = true
    · rw [if_pos e]
      exact Or.inl ⟨n, by omega, e, fun j h1 h2 => by omega, rfl⟩
    · rw [if_neg e]
      rcases ih with ⟨i, h1, h2, h3, h4⟩ | ⟨h1, h2⟩
      · exact Or.inl ⟨i, by omega, h2, fun j h5 h6 => if ej : j = n then (by rw [ej]; simpa using e) else h3 j h5 (by omega), h4⟩
      · exact Or.inr ⟨fun j hj => if ej : j = n then (by rw [ej]; simpa using e) else h1 j (by omega), h2⟩
theorem q_im_at (m i g : Nat → Int32) {n p x : Nat} (hp : p < n) (h1 : q_cm m p ≤ x) (h2 : x < q_cm m (p + 1)) : q_fm m i g n x = i p := by
  induction n with
  | zero => exact absurd hp (Nat.not_lt_zero p)
  | succ n ih =>
    show (if q_cm m n ≤ x ∧ x < q_cm m (n + 1) then i n else q_fm m i g n x) = i p
    by_cases e : p = n
    · subst e; rw [if_pos ⟨h1, h2⟩]
    · have h3 := q_cm_mono m (show p + 1 ≤ n by omega)
      rw [if_neg (by omega)]
      exact ih (by omega)
/-! THE REFERENCE'S OWN METHODS -/
/-- a session of the reference in its order: how many are ahead -/
def q_W.ah (m : q_W) (k : Nat) : Nat := q_cn (fun j => decide (m.dy j < m.dy k ∨ (m.dy j = m.dy k ∧ m.id j < m.id k))) m.c
/-- the loads of days, 0 behind the last -/
def q_W.D2 (m : q_W) (k : Nat) : Int32 := if k ≤ 199 then m.D k else nI 0
theorem q_lt1 {x : Int32} {n i : Nat} (hx : x = nI n - nI 1) (hn : n < 2 ^ 30) (hi : i < 2 ^ 30) : (x < nI i ↔ n ≤ i) := by
  rw [hx, Int32.lt_iff_toInt_lt, pk_sub_toInt hn (by omega), nI_toInt (by omega)]
  omega
/-- as q_W.dl, in the reference's order -/
theorem q_dl_z (m : q_W) (g : Nat → Int32) (n : Nat) (hσ : ∀ i, m.σ i = i) : m.dl g (n + 1) = va_up (m.dl g n) (m.dy n) (m.dl g n (m.dy n) + m.ld n) := by
  show va_up (m.dl g n) (m.dy (m.σ n)) (m.dl g n (m.dy (m.σ n)) + m.ld (m.σ n)) = _
  rw [hσ]
def q_es (f : Nat → Int32) (m : Nat) : Nat → Int32
  | 0 => nI 0
  | i + 1 => q_es f m i + (f i - (if i < m then nI 0 else f (i - m)))
def q_eb (f : Nat → Int32) (m : Nat) : Nat → Int32
  | 0 => -1
  | i + 1 => if m - 1 ≤ i then (if q_eb f m i < q_es f m (i + 1) then q_es f m (i + 1) else q_eb f m i) else q_eb f m i
theorem q_es_sum (f : Nat → Int32) (m i : Nat) : q_es f m i = q_sum f i - q_sum f (i - m) := by
  have r : ∀ a b x y : Int32, a - b + (x - y) = a + x - (b + y) := fun a b x y => by
    rw [Int32.sub_eq_add_neg, Int32.sub_eq_add_neg, Int32.sub_eq_add_neg, Int32.neg_add, Int32.sub_eq_add_neg]; ac_rfl
  induction i with
  | zero =>
    show nI 0 = q_sum f 0 - q_sum f (0 - m)
    rw [Nat.zero_sub]; exact (show nI 0 = (0 : Int32) - 0 from by decide)
  | succ i ih =>
    show q_es f m i + (f i - (if i < m then nI 0 else f (i - m))) = q_sum f i + f i - q_sum f (i + 1 - m)
    rw [ih, r]
    by_cases e : i < m
    · rw [if_pos e, show i - m = 0 by omega, show i + 1 - m = 0 by omega]
      congr 1
    · rw [if_neg e, show i + 1 - m = (i - m) + 1 by omega]; rfl
theorem q_eb_mx (f : Nat → Int32) (m : Nat) (hm : 1 ≤ m) (i : Nat) : q_eb f m i = q_mx (fun e => q_sum f (m + e) - q_sum f e) (i + 1 - m) := by
  induction i with
  | zero => rw [show 0 + 1 - m = 0 by omega]; rfl
  | succ i ih =>
    unfold q_eb
    rw [ih]
    by_cases e : m - 1 ≤ i
    · rw [if_pos e, show i + 1 + 1 - m = (i + 1 - m) + 1 by omega, q_es_sum, show i + 1 = m + (i + 1 - m) by omega, show m + (i + 1 - m) - m = i + 1 - m by omega]
      rfl
    · rw [if_neg e, show i + 1 + 1 - m = i + 1 - m by omega]
def q_on : Option Nat → Int32
  | none => -1
  | some b => nI b
/-- the strongest of the first n in the order rk -/
def q_sg (f : Nat → Int32) (rk : Nat → Nat) : Nat → Option Nat
  | 0 => none
  | n + 1 => match q_sg f rk n with
    | none => if 0 ≤ f (rk n) then some (rk n) else none
    | some b => if 0 ≤ f (rk n) ∧ f b < f (rk n) then some (rk n) else some b
theorem q_sg_lt {f : Nat → Int32} {rk : Nat → Nat} {c : Nat} (h : ∀ r, r < c → rk r < c) : ∀ n, n ≤ c → ∀ b, q_sg f rk n = some b → b < c := by
  intro n
  induction n with
  | zero => intro _ b e; cases e
  | succ n ih =>
    intro hn b e
    unfold q_sg at e
    split at e
    · split at e
      · cases e; exact h n (by omega)
      · cases e
    · rename_i b2 e2
      split at e
      · cases e; exact h n (by omega)
      · cases e; exact ih (by omega) _ e2
theorem q_sg_some {o : Option Nat} (h : ¬ q_on o < 0) : ∃ b, o = some b := by
  cases o with
  | none => exact absurd (show q_on none < 0 by decide) h
  | some b => exact ⟨b, rfl⟩
theorem q_sgA {f : Nat → Int32} {rk : Nat → Nat} {r : Nat} (h : f (rk r) < 0) : q_on (q_sg f rk (r + 1)) = q_on (q_sg f rk r) := by
  have h1 : ¬ 0 ≤ f (rk r) := Int32.not_le.mpr h
  have e1 : q_sg f rk (r + 1) = match q_sg f rk r with
    | none => if 0 ≤ f (rk r) then some (rk r) else none
    | some b => if 0 ≤ f (rk r) ∧ f b < f (rk r) then some (rk r) else some b := rfl
  rw [e1]
  cases q_sg f rk r with
  | none => dsimp only; rw [if_neg h1]
  | some b => dsimp only; rw [if_neg fun c => h1 c.1]
theorem q_sgB {f : Nat → Int32} {rk : Nat → Nat} {r : Nat} (hs : ∀ b, q_sg f rk r = some b → b < 2 ^ 31) (h : ¬ f (rk r) < 0) (h2 : q_on (q_sg f rk r) < 0) : q_on (q_sg f rk (r + 1)) = nI (rk r) := by
  have h1 : 0 ≤ f (rk r) := Int32.not_lt.mp h
  unfold q_sg
  split
  · rw [if_pos h1]; rfl
  · rename_i b e
    rw [e] at h2
    split
    · rfl
    · rename_i h3
      refine absurd h2 ?_
      show ¬ nI b < 0
      exact nI_pos (hs b e)
theorem q_sgC {f : Nat → Int32} {rk : Nat → Nat} {r b : Nat} (h : ¬ f (rk r) < 0) (hb : q_sg f rk r = some b) (h2 : f b < f (rk r)) : q_on (q_sg f rk (r + 1)) = nI (rk r) := by
  have h1 : 0 ≤ f (rk r) := Int32.not_lt.mp h
  unfold q_sg
  rw [hb]; dsimp only
  rw [if_pos ⟨h1, h2⟩]; rfl
theorem q_sgD {f : Nat → Int32} {rk : Nat → Nat} {r b : Nat} (h : ¬ f (rk r) < 0) (hb : q_sg f rk r = some b) (h2 : f (rk r) ≤ f b) : q_on (q_sg f rk (r + 1)) = nI b := by
  unfold q_sg
  rw [hb]; dsimp only
  rw [if_neg fun c => absurd c.2 (Int32.not_lt.mpr h2)]; rfl
def q_d3 (g : Nat → Int32) (a b c : Int32) : Nat → Int32 := fun k => if k = 9 then a else if k = 10 then b else if k = 11 then c else g k
theorem q_d3_9 (g : Nat → Int32) (a b c x : Int32) : va_up (q_d3 g a b c) 9 x = q_d3 g x b c := by
  funext k
  by_cases e : k = 9
  · subst e; rfl
  · simp [va_up, q_d3, e]
theorem q_d3_10 (g : Nat → Int32) (a b c x : Int32) : va_up (q_d3 g a b c) 10 x = q_d3 g a x c := by
  funext k
  by_cases e : k = 10
  · subst e; rfl
  · simp [va_up, q_d3, e]
theorem q_d3_11 (g : Nat → Int32) (a b c x : Int32) : va_up (q_d3 g a b c) 11 x = q_d3 g a b x := by
  funext k
  by_cases e : k = 11
  · subst e; rfl
  · simp [va_up, q_d3, e]
/-- which code -/
def q_k1 (c : Prop) (a : Nat) : Prop := (c ∧ a = 1) ∨ (¬ c ∧ a = 0)
def q_k2 (c1 c2 : Prop) (a : Nat) : Prop := (c1 ∧ a = 1) ∨ (¬ c1 ∧ c2 ∧ a = 2) ∨ (¬ c1 ∧ ¬ c2 ∧ a = 0)
def q_k3 (c1 c2 c3 : Prop) (a : Nat) : Prop := (c1 ∧ a = 1) ∨ (¬ c1 ∧ c2 ∧ a = 2) ∨ (¬ c1 ∧ ¬ c2 ∧ c3 ∧ a = 3) ∨ (¬ c1 ∧ ¬ c2 ∧ ¬ c3 ∧ a = 0)
/-- minutes of the first n sessions of one day: how many parts -/
def q_W.pa (m : q_W) (d : Nat) : Nat → Nat
  | 0 => 0
  | n + 1 => if m.dy n = d then m.pa d n + m.pn n else m.pa d n
theorem q_W.pa_le {m : q_W} (hp : ∀ k, k < 40 → m.pn k ≤ 8) (d : Nat) : ∀ n, n ≤ 40 → m.pa d n ≤ 8 * n := by
  intro n
  induction n with
  | zero => intro _; exact Nat.zero_le _
  | succ n ih =>
    intro hn
    have := ih (by omega)
    have := hp n (by omega)
    unfold q_W.pa
    split <;> omega
def q_bz (r : Nat → Int32) : Nat → Nat
  | 0 => 1
  | i + 1 => if r (q_bz r i) < r (i + 2) then i + 2 else q_bz r i
theorem q_bz_le (r : Nat → Int32) (n : Nat) : 1 ≤ q_bz r n ∧ q_bz r n ≤ n + 1 := by
  induction n with
  | zero => exact ⟨Nat.le_refl _, Nat.le_refl _⟩
  | succ n ih => unfold q_bz; split <;> omega
def q_W.sg2 (m : q_W) (r : Nat → Int32) (d : Nat) : Nat := if m.t < d then 45 else if q_cn (fun k => decide (m.dy k = d)) m.c = 0 then 46 else if m.pa d m.c = 0 then 48 else 48 + q_bz r 4
/-! THE REFERENCE: WHAT IT KEEPS -/
/-- undoable, top, written, saved; old states; snapshot; line -/
def q_P : Type := (Nat × Nat × Nat × Nat) × (Nat → q_W) × q_W × (Nat → Int32)
def q_P.un (P : q_P) : Nat := P.1.1
def q_P.tp (P : q_P) : Nat := P.1.2.1
def q_P.wr (P : q_P) : Nat := P.1.2.2.1
def q_P.sv (P : q_P) : Nat := P.1.2.2.2
def q_P.ob (P : q_P) : Nat → q_W := P.2.1
def q_P.sn (P : q_P) : q_W := P.2.2.1
def q_P.ln (P : q_P) : Nat → Int32 := P.2.2.2
def q_P.kept (P : q_P) (m : q_W) : q_P := ((min 6 (P.un + 1), (P.tp + 1) % 6, P.wr, P.sv), (fun j => if j = (P.tp + 1) % 6 then m else P.ob j), P.sn, P.ln)
def q_k0 (a : Nat) : Prop := a = 0
abbrev q_W.mno (m : q_W) (x : Int32) : Prop := q_pl (fun k => decide (m.id k = x)) m.c < 0
def q_W.mat (m : q_W) (x : Int32) : Nat := (q_pl (fun k => decide (m.id k = x)) m.c).toNatClampNeg
theorem q_mat {m : q_W} {x : Int32} (hc : m.c ≤ 40) (h : ¬ m.mno x) : m.mat x < m.c ∧ m.id (m.mat x) = x ∧ q_pl (fun k => decide (m.id k = x)) m.c = nI (m.mat x) := by
  rcases q_pl_c (fun k => decide (m.id k = x)) m.c with ⟨i, h1, h2, h3, h4⟩ | ⟨_, h4⟩
  · have e : m.mat x = i := by unfold q_W.mat; rw [h4, nI_clamp (by omega)]
    rw [e]
    exact ⟨h1, by simpa using h2, h4⟩
  · exact absurd (show q_pl _ _ < 0 by rw [h4]; decide) h
theorem q_mno_i {m : q_W} {x : Int32} (h : ¬ 0 ≤ q_pl (fun k => decide (m.id k = x)) m.c) : m.mno x := Int32.not_le.mp h
theorem q_zd_z (m : q_W) (g : Nat → Int32) (d n : Nat) (hσ : ∀ i, m.σ i = i) : m.zd g d (n + 1) = if m.dy n = d then q_az (m.zd g d n) (m.z n) (m.mn n) (m.pn n) else m.zd g d n := by
  show (if m.dy (m.σ n) = d then q_az (m.zd g d n) (m.z (m.σ n)) (m.mn (m.σ n)) (m.pn (m.σ n)) else m.zd g d n) = _
  rw [hσ]
theorem q_za_z (m : q_W) (g : Nat → Int32) (n : Nat) (hσ : ∀ i, m.σ i = i) : m.za g (n + 1) = q_az (m.za g n) (m.z n) (m.mn n) (m.pn n) := by
  show q_az (m.za g n) (m.z (m.σ n)) (m.mn (m.σ n)) (m.pn (m.σ n)) = _
  rw [hσ]
theorem q_bz_cong {f g : Nat → Int32} {n : Nat} (h : ∀ k, 1 ≤ k → k ≤ n + 1 → f k = g k) : q_bz f n = q_bz g n := by
  induction n with
  | zero => rfl
  | succ n ih =>
    have e := ih fun k h1 h2 => h k h1 (by omega)
    have := q_bz_le g n
    show (if _ then _ else _) = (if _ then _ else _)
    rw [e, h _ (by omega) (by omega), h (n + 2) (by omega) (by omega)]
theorem q_rlt {x : Int32} {n : Nat} (h : nI 0 ≤ x ∧ x ≤ nI n - nI 1) (hn : n < 2 ^ 30) : ∃ j, j < n ∧ x = nI j := by
  have h0 : ¬ x < 0 := fun e => by
    have h1 := h.1
    rw [Int32.le_iff_toInt_le, nI_toInt (by omega)] at h1
    rw [Int32.lt_iff_toInt_lt] at e
    have : (0 : Int32).toInt = 0 := by decide
    omega
  obtain ⟨j, hj, rfl⟩ := nI_of h0
  have h2 := h.2
  rw [Int32.le_iff_toInt_le, pk_sub_toInt hn (by omega), nI_toInt hj] at h2
  exact ⟨j, by omega, rfl⟩
/-! THE REFERENCE'S FACE: SUMS, RECORDS, PLAN, LINE -/
theorem q_pm1 (n : Nat) : nI n + Int32.ofInt (-1) = nI n - nI 1 := by
  rw [Int32.sub_eq_add_neg]; rfl
/-- of n from 200 down: the last that p holds of -/
def q_fd (p : Nat → Bool) : Nat → Int32
  | 0 => -1
  | k + 1 => if p (200 - k) then nI (200 - k) else q_fd p k
def q_W.f2 (m : q_W) (d : Nat) : Int32 := q_dec (nI 42) m.D2 d - q_dec (nI 7) m.D2 d
theorem q_neg1 {k : Nat} (hk : k < 2 ^ 30) : (nI k - nI 1 < 0 ↔ k = 0) := by
  rw [Int32.lt_iff_toInt_lt, pk_sub_toInt hk (by omega)]
  have : (0 : Int32).toInt = 0 := by decide
  omega
def q_wl2 (m : q_W) (d : Nat) (g : Nat → Int32) (n : Nat) : Nat → Int32 := fun k => if k < n then (if k % 2 = 1 then nI 32 else nI (m.sg2 (m.zr (d + k / 2)) (d + k / 2))) else g k
theorem q_wl2_s (m : q_W) (d : Nat) (g : Nat → Int32) (n : Nat) (x : Int32) (hx : x = if n % 2 = 1 then nI 32 else nI (m.sg2 (m.zr (d + n / 2)) (d + n / 2))) : va_up (q_wl2 m d g n) n x = q_wl2 m d g (n + 1) := by
  funext k; unfold va_up q_wl2
  by_cases e : k = n
  · subst e; rw [if_pos rfl, if_pos (by omega), hx]
  · rw [if_neg e]
    show (if k < n then _ else _) = _
    by_cases e2 : k < n
    · rw [if_pos e2, if_pos (show k < n + 1 by omega)]
    · rw [if_neg e2, if_neg (show ¬ k < n + 1 by omega)]
theorem q_sg2_lt (m : q_W) (r : Nat → Int32) (d : Nat) : m.sg2 r d < 65536 := by
  unfold q_W.sg2
  have := q_bz_le r 4
  split
  · omega
  split
  · omega
  split <;> omega
theorem q_k2_0 {c1 c2 : Prop} (h : q_k2 c1 c2 0) : ¬ c1 ∧ ¬ c2 := by
  rcases h with h | h | h
  · exact absurd h.2 (by decide)
  · exact absurd h.2.2 (by decide)
  · exact ⟨h.1, h.2.1⟩
def q_P.wrt (P : q_P) (ln : Nat → Int32) : q_P := ((P.un, P.tp, 13, P.sv), P.ob, P.sn, ln)
/-! THE REFERENCE'S FACE: CHANGES -/
def q_hA (r : Nat → Int32) (t : Nat) : Prop := r 0 = nI t ∧ t ≤ 199
def q_hT (r : Nat → Int32) (n : Nat) (d v : Nat → Int32) : Prop := r 3 = nI n ∧ n ≤ 10 ∧ ∀ k, k < 10 → r (20 + 2 * k) = d k ∧ r (21 + 2 * k) = v k
def q_hZ (r : Nat → Int32) (bd wt : Nat → Int32) : Prop := ∀ z, z < 6 → r (8 + z) = bd z ∧ r (14 + z) = wt z
def q_hP (r : Nat → Int32) (pe pf pc : Nat) (tg : Nat → Int32) : Prop := r 4 = nI pe ∧ pe ≤ 1 ∧ r 5 = nI pf ∧ pf ≤ 199 ∧ r 6 = nI pc ∧ pc ≤ 28 ∧ ∀ e, e < 28 → r (40 + e) = tg e
def q_hS (r : Nat → Int32) (c : Nat) (nx : Int32) (id : Nat → Int32) (dy pn : Nat → Nat) (mn it : Nat → Nat → Int32) : Prop :=
  r 1 = nx ∧ r 2 = nI c ∧ c ≤ 40 ∧ ∀ k, k < 40 → r (70 + 19 * k) = id k ∧ r (71 + 19 * k) = nI (dy k) ∧ dy k ≤ 199 ∧ r (72 + 19 * k) = nI (pn k) ∧ pn k ≤ 8 ∧ ∀ p, p < 8 → r (73 + 19 * k + p) = mn k p ∧ r (81 + 19 * k + p) = it k p
theorem q_hA.cong {r r' : Nat → Int32} {t : Nat} (g : q_hA r t) (e : r' 0 = r 0) : q_hA r' t := ⟨e.trans g.1, g.2⟩
theorem q_hT.cong {r r' : Nat → Int32} {n : Nat} {d v : Nat → Int32} (g : q_hT r n d v) (e : ∀ k, k = 3 ∨ (20 ≤ k ∧ k < 40) → r' k = r k) : q_hT r' n d v := ⟨(e 3 (by omega)).trans g.1, g.2.1, fun k hk => ⟨(e _ (by omega)).trans (g.2.2 k hk).1, (e _ (by omega)).trans (g.2.2 k hk).2⟩⟩
theorem q_hZ.cong {r r' : Nat → Int32} {b w : Nat → Int32} (g : q_hZ r b w) (e : ∀ k, 8 ≤ k ∧ k < 20 → r' k = r k) : q_hZ r' b w := fun z hz => ⟨(e _ (by omega)).trans (g z hz).1, (e _ (by omega)).trans (g z hz).2⟩
theorem q_hP.cong {r r' : Nat → Int32} {pe pf pc : Nat} {tg : Nat → Int32} (g : q_hP r pe pf pc tg) (e : ∀ k, (4 ≤ k ∧ k < 7) ∨ (40 ≤ k ∧ k < 68) → r' k = r k) : q_hP r' pe pf pc tg := ⟨(e _ (by omega)).trans g.1, g.2.1, (e _ (by omega)).trans g.2.2.1, g.2.2.2.1, (e _ (by omega)).trans g.2.2.2.2.1, g.2.2.2.2.2.1, fun x hx => (e _ (by omega)).trans (g.2.2.2.2.2.2 x hx)⟩
theorem q_hS.cong {r r' : Nat → Int32} {c : Nat} {nx : Int32} {id : Nat → Int32} {dy pn : Nat → Nat} {mn it : Nat → Nat → Int32} (g : q_hS r c nx id dy pn mn it) (e : ∀ k, k = 1 ∨ k = 2 ∨ (70 ≤ k ∧ k < 830) → r' k = r k) : q_hS r' c nx id dy pn mn it :=
  ⟨(e _ (by omega)).trans g.1, (e _ (by omega)).trans g.2.1, g.2.2.1, fun k hk => by
    obtain ⟨a1, a2, a3, a4, a5, a6⟩ := g.2.2.2 k hk
    exact ⟨(e _ (by omega)).trans a1, (e _ (by omega)).trans a2, a3, (e _ (by omega)).trans a4, a5, fun p hp => ⟨(e _ (by omega)).trans (a6 p hp).1, (e _ (by omega)).trans (a6 p hp).2⟩⟩⟩
def q_W.adS (m : q_W) (d : Nat) : q_W := m.sS (m.c + 1) (m.nx + nI 1) m.σ (va_up m.id m.c m.nx) (va_up m.dy m.c d) (va_up m.pn m.c 0) m.mn m.it
/-- cells from a on taken from 19 further -/
def q_sh (r : Nat → Int32) (a x : Nat) : Nat → Int32 := fun j => if a ≤ j ∧ j < x then r (j + 19) else r j
theorem q_sh_0 (r : Nat → Int32) (a : Nat) : q_sh r a a = r := funext fun j => if_neg (by omega)
theorem q_sh_s (r : Nat → Int32) (a x : Nat) (hx : a ≤ x) : va_up (q_sh r a x) x (r (x + 19)) = q_sh r a (x + 1) := by
  funext j; unfold va_up q_sh
  by_cases e : j = x
  · subst e; rw [if_pos rfl, if_pos (by omega)]
  · rw [if_neg e]
    show (if a ≤ j ∧ j < x then _ else _) = _
    by_cases e2 : a ≤ j ∧ j < x
    · rw [if_pos e2, if_pos (show a ≤ j ∧ j < x + 1 by omega)]
    · rw [if_neg e2, if_neg (show ¬ (a ≤ j ∧ j < x + 1) by omega)]
def q_sf {α : Type} (c k : Nat) (f : Nat → α) : Nat → α := fun j => if k ≤ j ∧ j < c - 1 then f (j + 1) else f j
def q_W.rmS (m : q_W) (k : Nat) : q_W := m.sS (m.c - 1) m.nx m.σ (q_sf m.c k m.id) (q_sf m.c k m.dy) (q_sf m.c k m.pn) (q_sf m.c k m.mn) (q_sf m.c k m.it)
def q_P.back (P : q_P) : q_P := ((P.un - 1, (P.tp + 6 - 1) % 6, P.wr, P.sv), P.ob, P.sn, P.ln)
def q_P.savd (P : q_P) (m : q_W) : q_P := ((P.un, P.tp, P.wr, 1), P.ob, m, P.ln)
def q_P.rest (P : q_P) : q_P := ((0, P.tp, P.wr, P.sv), P.ob, P.sn, P.ln)
theorem q_pli {p : Nat → Bool} {n : Nat} (h : ¬ q_pl p n < 0) (hn : n < 2 ^ 31) : ∃ i, i < n ∧ p i = true ∧ q_pl p n = nI i := by
  rcases q_pl_c p n with ⟨i, h1, h2, h3, h4⟩ | ⟨_, h4⟩
  · exact ⟨i, h1, h2, h4⟩
  · rw [h4] at h; exact absurd (by decide) h
theorem q_val.addT {m : q_W} (v : q_val m) {j x : Nat} (hj : j ≤ 199) (hx1 : 50 ≤ x) (hx : x ≤ 400) : q_val (m.sT (m.n + 1) (va_up m.d m.n (nI j)) (va_up m.v m.n (nI x))) := by
  obtain ⟨v1, v2, v3, v4, v5, v6, v7⟩ := v
  refine ⟨fun i hi => ?_, v2, v3, v4, fun i hi => ?_, v6, v7⟩
  · by_cases e : i = m.n
    · subst e; exact ⟨x, hx1, hx, va_us _ _ _⟩
    · obtain ⟨k, h1, h2, h3⟩ := v1 i (by have : i < m.n + 1 := hi; omega)
      exact ⟨k, h1, h2, (va_un _ _ e).trans h3⟩
  · by_cases e : i = m.n
    · subst e; exact ⟨j, hj, va_us _ _ _⟩
    · obtain ⟨k, h1, h3⟩ := v5 i (by have : i < m.n + 1 := hi; omega)
      exact ⟨k, h1, (va_un _ _ e).trans h3⟩
