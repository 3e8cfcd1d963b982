/-! THE CLASS'S STATE AS PLAIN DATA -/
/-- today; tests: how many, days, thresholds; bounds, weights; sessions: how many, next id, the order, and of each session object id, day, parts, minutes, intensities; plan: there, first day, entries, targets -/
def q_W : Type := Nat × (Nat × (Nat → Int32) × (Nat → Int32)) × ((Nat → Int32) × (Nat → Int32)) × (Nat × Int32 × (Nat → Nat) × (Nat → Int32) × (Nat → Nat) × (Nat → Nat) × (Nat → Nat → Int32) × (Nat → Nat → Int32)) × (Nat × Nat × Nat × (Nat → Int32))
def q_W.t (W : q_W) : Nat := W.1
def q_W.n (W : q_W) : Nat := W.2.1.1
def q_W.d (W : q_W) : Nat → Int32 := W.2.1.2.1
def q_W.v (W : q_W) : Nat → Int32 := W.2.1.2.2
def q_W.bd (W : q_W) : Nat → Int32 := W.2.2.1.1
def q_W.wt (W : q_W) : Nat → Int32 := W.2.2.1.2
def q_W.c (W : q_W) : Nat := W.2.2.2.1.1
def q_W.nx (W : q_W) : Int32 := W.2.2.2.1.2.1
def q_W.σ (W : q_W) : Nat → Nat := W.2.2.2.1.2.2.1
def q_W.id (W : q_W) : Nat → Int32 := W.2.2.2.1.2.2.2.1
def q_W.dy (W : q_W) : Nat → Nat := W.2.2.2.1.2.2.2.2.1
def q_W.pn (W : q_W) : Nat → Nat := W.2.2.2.1.2.2.2.2.2.1
def q_W.mn (W : q_W) : Nat → Nat → Int32 := W.2.2.2.1.2.2.2.2.2.2.1
def q_W.it (W : q_W) : Nat → Nat → Int32 := W.2.2.2.1.2.2.2.2.2.2.2
def q_W.pe (W : q_W) : Nat := W.2.2.2.2.1
def q_W.pf (W : q_W) : Nat := W.2.2.2.2.2.1
def q_W.pc (W : q_W) : Nat := W.2.2.2.2.2.2.1
def q_W.tg (W : q_W) : Nat → Int32 := W.2.2.2.2.2.2.2
/-- the State at B holds W -/
def q_vB (B : Nat) (I : Nat → Nat → Int32) (R : Nat → Nat → Option Nat) (W : q_W) : Prop :=
  I B 0 = nI W.t ∧ W.t ≤ 199 ∧ I (B + 1) 2 = nI W.n ∧ W.n ≤ 10 ∧ I (B + 2) = W.d ∧ I (B + 3) = W.v ∧ I (B + 5) = W.bd ∧ I (B + 6) = W.wt ∧
  I (B + 7) 1 = nI W.c ∧ W.c ≤ 40 ∧ I (B + 7) 2 = W.nx ∧ (∀ i, i < 40 → R (B + 8) i = some (B + 9 + 3 * W.σ i) ∧ W.σ i < 40) ∧
  (∀ s, s < 40 → I (B + 9 + 3 * s) 0 = W.id s ∧ I (B + 9 + 3 * s) 1 = nI (W.dy s) ∧ W.dy s ≤ 199 ∧ I (B + 9 + 3 * s) 2 = nI (W.pn s) ∧ W.pn s ≤ 8 ∧ I (B + 10 + 3 * s) = W.mn s ∧ I (B + 11 + 3 * s) = W.it s) ∧
  I (B + 129) 0 = nI W.pe ∧ W.pe ≤ 1 ∧ I (B + 129) 1 = nI W.pf ∧ W.pf ≤ 199 ∧ I (B + 129) 2 = nI W.pc ∧ W.pc ≤ 28 ∧ I (B + 130) = W.tg
def q_vw (h : q_Hp) (W : q_W) : Prop := q_vB 2 h.I h.R W
theorem q_vw.t {h : q_Hp} {W : q_W} (V : q_vw h W) : h.I 2 0 = nI W.t := V.1
theorem q_vw.t9 {h : q_Hp} {W : q_W} (V : q_vw h W) : W.t ≤ 199 := V.2.1
theorem q_vw.n {h : q_Hp} {W : q_W} (V : q_vw h W) : h.I 3 2 = nI W.n := V.2.2.1
theorem q_vw.n10 {h : q_Hp} {W : q_W} (V : q_vw h W) : W.n ≤ 10 := V.2.2.2.1
theorem q_vw.d {h : q_Hp} {W : q_W} (V : q_vw h W) : h.I 4 = W.d := V.2.2.2.2.1
theorem q_vw.v {h : q_Hp} {W : q_W} (V : q_vw h W) : h.I 5 = W.v := V.2.2.2.2.2.1
theorem q_vw.bd {h : q_Hp} {W : q_W} (V : q_vw h W) : h.I 7 = W.bd := V.2.2.2.2.2.2.1
theorem q_vw.wt {h : q_Hp} {W : q_W} (V : q_vw h W) : h.I 8 = W.wt := V.2.2.2.2.2.2.2.1
theorem q_vw.c {h : q_Hp} {W : q_W} (V : q_vw h W) : h.I 9 1 = nI W.c := V.2.2.2.2.2.2.2.2.1
theorem q_vw.c40 {h : q_Hp} {W : q_W} (V : q_vw h W) : W.c ≤ 40 := V.2.2.2.2.2.2.2.2.2.1
theorem q_vw.nx {h : q_Hp} {W : q_W} (V : q_vw h W) : h.I 9 2 = W.nx := V.2.2.2.2.2.2.2.2.2.2.1
theorem q_vw.pe {h : q_Hp} {W : q_W} (V : q_vw h W) : h.I 131 0 = nI W.pe := V.2.2.2.2.2.2.2.2.2.2.2.2.2.1
theorem q_vw.pe1 {h : q_Hp} {W : q_W} (V : q_vw h W) : W.pe ≤ 1 := V.2.2.2.2.2.2.2.2.2.2.2.2.2.2.1
theorem q_vw.pf {h : q_Hp} {W : q_W} (V : q_vw h W) : h.I 131 1 = nI W.pf := V.2.2.2.2.2.2.2.2.2.2.2.2.2.2.2.1
theorem q_vw.pf9 {h : q_Hp} {W : q_W} (V : q_vw h W) : W.pf ≤ 199 := V.2.2.2.2.2.2.2.2.2.2.2.2.2.2.2.2.1
theorem q_vw.pc {h : q_Hp} {W : q_W} (V : q_vw h W) : h.I 131 2 = nI W.pc := V.2.2.2.2.2.2.2.2.2.2.2.2.2.2.2.2.2.1
theorem q_vw.pc28 {h : q_Hp} {W : q_W} (V : q_vw h W) : W.pc ≤ 28 := V.2.2.2.2.2.2.2.2.2.2.2.2.2.2.2.2.2.2.1
theorem q_vw.tg {h : q_Hp} {W : q_W} (V : q_vw h W) : h.I 132 = W.tg := V.2.2.2.2.2.2.2.2.2.2.2.2.2.2.2.2.2.2.2
theorem q_vw.sg {h : q_Hp} {W : q_W} (V : q_vw h W) {i : Nat} (hi : i < 40) : h.R 10 i = some (11 + 3 * W.σ i) := (V.2.2.2.2.2.2.2.2.2.2.2.1 i hi).1
theorem q_vw.s40 {h : q_Hp} {W : q_W} (V : q_vw h W) {i : Nat} (hi : i < 40) : W.σ i < 40 := (V.2.2.2.2.2.2.2.2.2.2.2.1 i hi).2
theorem q_vw.id {h : q_Hp} {W : q_W} (V : q_vw h W) {s : Nat} (hs : s < 40) : h.I (11 + 3 * s) 0 = W.id s := (V.2.2.2.2.2.2.2.2.2.2.2.2.1 s hs).1
theorem q_vw.dy {h : q_Hp} {W : q_W} (V : q_vw h W) {s : Nat} (hs : s < 40) : h.I (11 + 3 * s) 1 = nI (W.dy s) := (V.2.2.2.2.2.2.2.2.2.2.2.2.1 s hs).2.1
theorem q_vw.dy9 {h : q_Hp} {W : q_W} (V : q_vw h W) {s : Nat} (hs : s < 40) : W.dy s ≤ 199 := (V.2.2.2.2.2.2.2.2.2.2.2.2.1 s hs).2.2.1
theorem q_vw.pn {h : q_Hp} {W : q_W} (V : q_vw h W) {s : Nat} (hs : s < 40) : h.I (11 + 3 * s) 2 = nI (W.pn s) := (V.2.2.2.2.2.2.2.2.2.2.2.2.1 s hs).2.2.2.1
theorem q_vw.pn8 {h : q_Hp} {W : q_W} (V : q_vw h W) {s : Nat} (hs : s < 40) : W.pn s ≤ 8 := (V.2.2.2.2.2.2.2.2.2.2.2.2.1 s hs).2.2.2.2.1
theorem q_vw.mn {h : q_Hp} {W : q_W} (V : q_vw h W) {s : Nat} (hs : s < 40) : h.I (12 + 3 * s) = W.mn s := (V.2.2.2.2.2.2.2.2.2.2.2.2.1 s hs).2.2.2.2.2.1
theorem q_vw.it {h : q_Hp} {W : q_W} (V : q_vw h W) {s : Nat} (hs : s < 40) : h.I (13 + 3 * s) = W.it s := (V.2.2.2.2.2.2.2.2.2.2.2.2.1 s hs).2.2.2.2.2.2
theorem q_vB.cong {B : Nat} {I I' : Nat → Nat → Int32} {R R' : Nat → Nat → Option Nat} {W : q_W} (V : q_vB B I R W) (hI : ∀ p, B ≤ p → p < B + 131 → I' p = I p) (hR : R' (B + 8) = R (B + 8)) : q_vB B I' R' W := by
  obtain ⟨h1, h2, h3, h4, h5, h6, h7, h8, h9, h10, h11, h12, h13, h14, h15, h16, h17, h18, h19, h20⟩ := V
  refine ⟨?_, h2, ?_, h4, ?_, ?_, ?_, ?_, ?_, h10, ?_, ?_, ?_, ?_, h15, ?_, h17, ?_, h19, ?_⟩
  · rw [hI B (by omega) (by omega)]; exact h1
  · rw [hI (B + 1) (by omega) (by omega)]; exact h3
  · rw [hI (B + 2) (by omega) (by omega)]; exact h5
  · rw [hI (B + 3) (by omega) (by omega)]; exact h6
  · rw [hI (B + 5) (by omega) (by omega)]; exact h7
  · rw [hI (B + 6) (by omega) (by omega)]; exact h8
  · rw [hI (B + 7) (by omega) (by omega)]; exact h9
  · rw [hI (B + 7) (by omega) (by omega)]; exact h11
  · rw [hR]; exact h12
  · intro s hs
    rw [hI (B + 9 + 3 * s) (by omega) (by omega), hI (B + 10 + 3 * s) (by omega) (by omega), hI (B + 11 + 3 * s) (by omega) (by omega)]
    exact h13 s hs
  · rw [hI (B + 129) (by omega) (by omega)]; exact h14
  · rw [hI (B + 129) (by omega) (by omega)]; exact h16
  · rw [hI (B + 129) (by omega) (by omega)]; exact h18
  · rw [hI (B + 130) (by omega) (by omega)]; exact h20
theorem q_vw.row {h : q_Hp} {W : q_W} (V : q_vw h W) {a : Nat} {g : Nat → Int32} (ha : 133 ≤ a) : q_vw (h.rowI a g) W := q_vB.cong V (fun p _ hp => q_row_ne _ _ (by omega)) rfl
theorem q_vw.set {h : q_Hp} {W : q_W} (V : q_vw h W) {a f : Nat} {v : Int32} (ha : 133 ≤ a) : q_vw (h.setI a f v) W := q_vB.cong V (fun p _ hp => q_row_ne _ _ (by omega)) rfl
/-! places of sessions -/
theorem q_ts : ∀ {s : Nat}, s < 40 → q_tag (11 + 3 * s) = 3 := by decide +kernel
theorem q_bs {s : Nat} (hs : s < 40) : 11 + 3 * s ≤ 1060 := by omega
theorem q_bs1 {s : Nat} (hs : s < 40) : 12 + 3 * s ≤ 1060 := by omega
theorem q_bs2 {s : Nat} (hs : s < 40) : 13 + 3 * s ≤ 1060 := by omega
theorem q_ts1 : ∀ {s : Nat}, s < 40 → q_tag (12 + 3 * s) = 12 := by decide +kernel
theorem q_ts2 : ∀ {s : Nat}, s < 40 → q_tag (13 + 3 * s) = 12 := by decide +kernel
theorem q_ls1 : ∀ {s : Nat}, s < 40 → q_len (12 + 3 * s) = 8 := by decide +kernel
theorem q_ls2 : ∀ {s : Nat}, s < 40 → q_len (13 + 3 * s) = 8 := by decide +kernel
theorem q_lks3 : ∀ {s : Nat}, s < 40 → q_lkT (11 + 3 * s) 3 = some (12 + 3 * s) := by decide +kernel
theorem q_lks4 : ∀ {s : Nat}, s < 40 → q_lkT (11 + 3 * s) 4 = some (13 + 3 * s) := by decide +kernel
theorem q_minN {a b : Nat} (ha : a < 2 ^ 31) (hb : b < 2 ^ 31) : (if nI b < nI a then nI b else nI a) = nI (min a b) := by
  by_cases e : b < a
  · rw [if_pos ((nI_ltI hb ha).mpr e), Nat.min_eq_right (by omega)]
  · rw [if_neg fun c => e ((nI_ltI hb ha).mp c), Nat.min_eq_left (by omega)]
theorem q_maxN {a b : Nat} (ha : a < 2 ^ 31) (hb : b < 2 ^ 31) : (if nI a < nI b then nI b else nI a) = nI (max a b) := by
  by_cases e : a < b
  · rw [if_pos ((nI_ltI ha hb).mpr e), Nat.max_eq_right (by omega)]
  · rw [if_neg fun c => e ((nI_ltI ha hb).mp c), Nat.max_eq_left (by omega)]
/-! what the methods of class and reference compute -/
/-- the threshold in force: over n tests of days d and thresholds v -/
def q_thr (d v : Nat → Int32) (day : Int32) : Nat → Int32 × Int32
  | 0 => (-1, 200)
  | n + 1 => if d n ≤ day ∧ (q_thr d v day n).1 < d n then (d n, v n) else q_thr d v day n
/-- a sum of n -/
def q_sum (f : Nat → Int32) : Nat → Int32
  | 0 => 0
  | n + 1 => q_sum f n + f n
/-- the first of n that p holds of; -1 if there is none -/
def q_ps (p : Nat → Bool) (n : Nat) : Int32 := match (List.range n).find? p with
  | some i => nI i
  | none => -1
theorem q_find {p : Nat → Bool} {i n : Nat} (hi : i < n) (hp : p i = true) (hf : ∀ j, j < i → p j = false) : (List.range n).find? p = some i := by
  rw [List.find?_eq_some_iff_getElem]
  refine ⟨hp, i, by simpa using hi, by simp, fun j hj => ?_⟩
  simp [hf j hj]
theorem q_ps_i {p : Nat → Bool} {i n : Nat} (hi : i < n) (hp : p i = true) (hf : ∀ j, j < i → p j = false) : q_ps p n = nI i := by
  unfold q_ps; rw [q_find hi hp hf]
theorem q_ps_n {p : Nat → Bool} {n : Nat} (hf : ∀ j, j < n → p j = false) : q_ps p n = -1 := by
  unfold q_ps
  rw [List.find?_eq_none.mpr fun x hx => by rw [hf x (List.mem_range.mp hx)]; decide]
theorem q_ps_c (p : Nat → Bool) (n : Nat) : (∃ i, i < n ∧ p i = true ∧ (∀ j, j < i → p j = false) ∧ q_ps p n = nI i) ∨ ((∀ j, j < n → p j = false) ∧ q_ps p n = -1) := by
  induction n with
  | zero => exact Or.inr ⟨fun j hj => absurd hj (Nat.not_lt_zero j), rfl⟩
  | succ n ih =>
    rcases ih with ⟨i, h1, h2, h3, -⟩ | ⟨h1, -⟩
    · exact Or.inl ⟨i, by omega, h2, h3, q_ps_i (by omega) h2 h3⟩
    · by_cases e : p n = true
      · exact Or.inl ⟨n, by omega, e, h1, q_ps_i (by omega) e h1⟩
      · have h2 : ∀ j, j < n + 1 → p j = false := fun j hj => by
          by_cases ej : j = n
          · rw [ej]; simpa using e
          · exact h1 j (by omega)
        exact Or.inr ⟨h2, q_ps_n h2⟩
theorem q_ne_s {p : Nat → Bool} {i : Nat} (hf : ∀ j, j < i → p j = false) (hi : p i = false) : ∀ j, j < i + 1 → p j = false := fun j hj => by
  by_cases e : j = i
  · rw [e]; exact hi
  · exact hf j (by omega)
/-- some of n -/
def q_any (p : Nat → Bool) (n : Nat) : Bool := (List.range n).any p
theorem q_any_i {p : Nat → Bool} {i n : Nat} (hi : i < n) (hp : p i = true) : q_any p n = true := List.any_eq_true.mpr ⟨i, List.mem_range.mpr hi, hp⟩
theorem q_any_n {p : Nat → Bool} {n : Nat} (hf : ∀ j, j < n → p j = false) : q_any p n = false := by
  unfold q_any
  rw [List.any_eq_false]
  intro x hx
  rw [hf x (List.mem_range.mp hx)]; decide
/-- a zone -/
def q_zn (bd : Nat → Int32) (x t : Int32) : Nat := if bd 5 * t ≤ nI 100 * x then 5 else if bd 4 * t ≤ nI 100 * x then 4 else if bd 3 * t ≤ nI 100 * x then 3 else if bd 2 * t ≤ nI 100 * x then 2 else 1
theorem q_zn_le (bd : Nat → Int32) (x t : Int32) : 1 ≤ q_zn bd x t ∧ q_zn bd x t ≤ 5 := by
  unfold q_zn
  split
  · omega
  split
  · omega
  split
  · omega
  split <;> omega
def q_W.th (W : q_W) (day : Int32) : Int32 := (q_thr W.d W.v day W.n).2
def q_W.lt (W : q_W) (s : Nat) : Int32 := W.th (nI (W.dy s))
def q_W.z (W : q_W) (s p : Nat) : Nat := q_zn W.bd (W.it s p) (W.lt s)
def q_W.ld (W : q_W) (s : Nat) : Int32 := q_sum (fun p => W.mn s p * W.wt (W.z s p)) (W.pn s)
def q_W.len (W : q_W) (s : Nat) : Int32 := q_sum (W.mn s) (W.pn s)
/-- f's cells below n over g's -/
theorem q_cpy_s (f g : Nat → Int32) (n : Nat) : va_up (q_cpy f g n) n (f n) = q_cpy f g (n + 1) := by
  funext k
  unfold va_up q_cpy
  by_cases e : k = n
  · subst e; rw [if_pos rfl, if_pos (by omega)]
  · rw [if_neg e]
    by_cases e2 : k < n
    · rw [if_pos e2, if_pos (by omega)]
    · rw [if_neg e2, if_neg (by omega)]
theorem q_cpy_0 (f g : Nat → Int32) : q_cpy f g 0 = g := funext fun k => if_neg (by omega)
/-- zones: the minutes of n parts added -/
def q_az (g : Nat → Int32) (z : Nat → Nat) (m : Nat → Int32) : Nat → Nat → Int32
  | 0 => g
  | n + 1 => va_up (q_az g z m n) (z n) (q_az g z m n (z n) + m n)
/-- how many of n -/
def q_cn (p : Nat → Bool) : Nat → Nat
  | 0 => 0
  | n + 1 => if p n then q_cn p n + 1 else q_cn p n
theorem q_cn_le (p : Nat → Bool) (n : Nat) : q_cn p n ≤ n := by
  induction n with
  | zero => exact Nat.le_refl 0
  | succ n ih => unfold q_cn; split <;> omega
