/-! WHAT THE LAW KEEPS OF THE PAST -/
theorem q_tg16 {k : Nat} (h : 2000 ≤ k) (h2 : k % 4 ≤ 1) : q_tag k = 16 := by rw [q_tag_dyn h, if_neg (by omega)]
theorem q_tg17 {k : Nat} (h : 2000 ≤ k) (h2 : k % 4 = 2) : q_tag k = 17 := by rw [q_tag_dyn h, if_pos h2]
theorem q_ln7 {k : Nat} (h : 2000 ≤ k) (h2 : k % 4 = 2) : q_len k = 7 := by rw [q_len_dyn h, if_neg (by omega), if_pos h2]
theorem q_ln1 {k : Nat} (h : 2000 ≤ k) (h2 : k % 4 = 1) : q_len k = 1 := by rw [q_len_dyn h, if_neg (by omega), if_neg (by omega)]
theorem q_sRn {h : q_Hp} {p f j : Nat} {t : Option Nat} (hj : j ≠ f) : (h.setR p f t).R p j = h.R p j := (congrFun (q_setR_s h p f t) j).trans (va_un _ _ hj)
theorem q_sRs {h : q_Hp} {p f : Nat} {t : Option Nat} : (h.setR p f t).R p f = t := (congrFun (q_setR_s h p f t) f).trans (va_us _ _ _)
def q_row9 (c : Nat) (N : Nat → Int32) (W : q_W) : Prop := ∃ m ρ, q_nr N m ρ ∧ q_bd m ∧ q_inc m ∧ N 899 = nI 0 ∧ q_smc c W m
theorem q_row9.le {c c' : Nat} {N : Nat → Int32} {W : q_W} (s : q_row9 c N W) (h : c ≤ c') : q_row9 c' N W := by
  obtain ⟨m, ρ, s1, s2, s3, s4, s5⟩ := s
  exact ⟨m, ρ, s1, s2, s3, s4, s5.le h⟩
def q_lg (h h1 : q_Hp) (a : Nat) : Prop := (∀ p, p ∈ h.J → 2000 ≤ p → p % 4 = 0 → p ≠ a → h1.I p = h.I p) ∧ (∃ e, h1.J = h.J ++ e) ∧ (∀ p, p < 2000 → p ≠ 10 → h1.R p = h.R p) ∧ h1.n = h.n
def q_hp (h : q_Hp) (a st c : Nat) (O : q_O) (pl : Nat → Nat) : Prop := (∀ j, j < 7 → h.R st j = some (pl j) ∧ pl j ∈ h.J ∧ 2000 ≤ pl j ∧ pl j % 4 ≤ 1 ∧ pl j ≠ a) ∧ pl 6 % 4 = 1 ∧ h.I (pl 6) 0 = nI O.cn ∧ ∀ j, j < O.cn → pl j % 4 = 0 ∧ q_row9 c (h.I (pl j)) (O.OB ((O.nx + 5 - j) % 6))
def q_hx (h : q_Hp) (a st c : Nat) (O : q_O) : Prop := (st ∈ h.J ∧ 2000 ≤ st ∧ st % 4 = 2) ∧ O.nx < 6 ∧ O.cn ≤ 6 ∧ ∃ pl, q_hp h a st c O pl
section Q62
variable {h h1 h2 : q_Hp} {a st c : Nat} {O : q_O} {pl : Nat → Nat}
theorem q_lg.tr (F : q_lg h h1 a) (G : q_lg h1 h2 a) : q_lg h h2 a := by
  obtain ⟨f1, ⟨e, f2⟩, f3, f4⟩ := F
  obtain ⟨g1, ⟨e9, g2⟩, g3, g4⟩ := G
  exact ⟨fun p h9 h8 h7 h6 => (g1 p (by rw [f2]; exact List.mem_append_left _ h9) h8 h7 h6).trans (f1 p h9 h8 h7 h6), ⟨e ++ e9, by rw [g2, f2, List.append_assoc]⟩, fun p h9 h8 => (g3 p h9 h8).trans (f3 p h9 h8), g4.trans f4⟩
theorem q_lf.lg (F : q_lf h h1 a) : q_lg h h1 a := ⟨fun p h9 h8 _ h6 => (F.1 p h9 h8 h6).1, F.2⟩
theorem q_lg.in {p : Nat} (F : q_lg h h1 a) (hp : p ∈ h.J) : p ∈ h1.J := by
  obtain ⟨e, he⟩ := F.2.1
  rw [he]; exact List.mem_append_left _ hp
theorem q_lg.n9 {p : Nat} (F : q_lg h h1 a) (hp : q_n9 h p) : q_n9 h1 p := ⟨F.in hp.1, hp.2⟩
theorem q_lg.Lk {Φ : q_Fx} (F : q_lg h h1 a) (K : q_Lk Φ h.R h.n) : q_Lk Φ h1.R h1.n := by
  refine ⟨K.1, F.2.2.2.trans K.2.1, fun p f t e => ?_⟩
  by_cases h1 : 1061 ≤ p
  · rw [q_lkT_dyn h1] at e; cases e
  by_cases h2 : p = 10
  · subst h2; exact absurd e (by rw [show q_lkT 10 f = none from rfl]; exact fun c => by cases c)
  rw [F.2.2.1 p (by omega) h2]
  exact K.2.2 p f t e
theorem q_hp.le {c' : Nat} (X : q_hp h a st c O pl) (hc : c ≤ c') : q_hp h a st c' O pl := ⟨X.1, X.2.1, X.2.2.1, fun j hj => ⟨(X.2.2.2 j hj).1, (X.2.2.2 j hj).2.le hc⟩⟩
theorem q_hx.le {c' : Nat} (X : q_hx h a st c O) (hc : c ≤ c') : q_hx h a st c' O := by
  obtain ⟨x1, x2, x3, pl, x4⟩ := X
  exact ⟨x1, x2, x3, pl, x4.le hc⟩
/-- the net may change, rows be made, the class be called -/
theorem q_hx.lf (X : q_hx h a st c O) (F : q_lf h h1 a) (ha : a % 4 = 0) : q_hx h1 a st c O := by
  obtain ⟨⟨s1, s2, s3⟩, x2, x3, pl, p1, p2, p3, p4⟩ := X
  have ec : ∀ j, j < 7 → h1.I (pl j) = h.I (pl j) := fun j hj => (F.1 _ (p1 j hj).2.1 (p1 j hj).2.2.1 (p1 j hj).2.2.2.2).1
  refine ⟨⟨F.in s1, s2, s3⟩, x2, x3, pl, fun j hj => ?_, p2, ?_, fun j hj => ?_⟩
  · obtain ⟨q1, q2, q3⟩ := p1 j hj
    exact ⟨by rw [(F.1 st s1 s2 (by omega)).2]; exact q1, F.in q2, q3⟩
  · rw [ec 6 (by decide)]; exact p3
  · rw [ec j (by omega)]; exact p4 j hj
/-- as O, but for what the history holds -/
theorem q_hx.eqO {O1 : q_O} (X : q_hx h a st c O) (h1 : O1.nx = O.nx) (h2 : O1.cn = O.cn) (h3 : O1.OB = O.OB) : q_hx h a st c O1 := by
  obtain ⟨x1, x2, x3, pl, p1, p2, p3, p4⟩ := X
  exact ⟨x1, by rw [h1]; exact x2, by rw [h2]; exact x3, pl, p1, p2, by rw [h2]; exact p3, fun j hj => by rw [h3, h1]; exact p4 j (by rw [← h2]; exact hj)⟩
theorem q_hx_push (s : st ∈ h.J ∧ 2000 ≤ st ∧ st % 4 = 2) (n6 : O.nx < 6) (c6 : O.cn ≤ 6) (X : q_hp h a st c O pl) {cz : Nat} (Nc : q_n9 h cz) (hac : cz ≠ a) {Y : q_W} (rc : q_row9 c (h.I cz) Y) (eI : ∀ p, p ≠ pl 6 → h2.I p = h.I p) (e6 : h2.I (pl 6) 0 = nI (min 6 (O.cn + 1)))
    (eR : ∀ j, j < 7 → h2.R st j = some (if j = 0 then cz else if j < 6 then pl (j - 1) else pl 6)) (eJ : h2.J = h.J) : q_hx h2 a st c (O.kept Y) := by
  obtain ⟨p1, p2, p3, p4⟩ := X
  have hc4 := Nc.2.2
  refine ⟨⟨by rw [eJ]; exact s.1, s.2⟩, Nat.mod_lt _ (by decide), Nat.min_le_right _ _, fun j => if j = 0 then cz else if j < 6 then pl (j - 1) else pl 6, fun j hj => ⟨eR j hj, ?_⟩, p2, ?_, fun j hj => ?_⟩
  · dsimp only
    rw [eJ]
    by_cases e0 : j = 0
    · rw [if_pos e0]; exact ⟨Nc.1, Nc.2.1, by omega, hac⟩
    · by_cases e1 : j < 6
      · rw [if_neg e0, if_pos e1]; exact (p1 (j - 1) (by omega)).2
      · rw [if_neg e0, if_neg e1]; exact (p1 6 (by omega)).2
  · show h2.I (pl 6) 0 = nI (min (O.cn + 1) 6)
    rw [e6, Nat.min_comm]
  · have hj : j < min (O.cn + 1) 6 := hj
    show (if j = 0 then cz else if j < 6 then pl (j - 1) else pl 6) % 4 = 0 ∧ q_row9 c (h2.I (if j = 0 then cz else if j < 6 then pl (j - 1) else pl 6)) (if ((O.nx + 1) % 6 + 5 - j) % 6 = O.nx then Y else O.OB (((O.nx + 1) % 6 + 5 - j) % 6))
    by_cases e0 : j = 0
    · subst e0
      rw [if_pos rfl, if_pos (by omega), eI cz (fun e => by rw [e] at hc4; omega)]
      exact ⟨hc4, rc⟩
    · obtain ⟨q1, q2⟩ := p4 (j - 1) (by omega)
      rw [if_neg e0, if_pos (by omega), if_neg (by omega), show ((O.nx + 1) % 6 + 5 - j) % 6 = (O.nx + 5 - (j - 1)) % 6 by omega, eI _ (fun e => by rw [e] at q1; omega)]
      exact ⟨q1, q2⟩
/-- one step back -/
theorem q_hx_pop (s : st ∈ h.J ∧ 2000 ≤ st ∧ st % 4 = 2) (n6 : O.nx < 6) (c6 : O.cn ≤ 6) (c0 : O.cn ≠ 0) (X : q_hp h a st c O pl) (eI : ∀ p, p ≠ pl 6 → p ≠ a → h2.I p = h.I p) (e6 : h2.I (pl 6) 0 = nI (O.cn - 1))
    (eR : ∀ j, j < 7 → h2.R st j = some (if j < 5 then pl (j + 1) else pl j)) (eJ : h2.J = h.J) : q_hx h2 a st c O.back := by
  obtain ⟨p1, p2, p3, p4⟩ := X
  refine ⟨⟨by rw [eJ]; exact s.1, s.2⟩, Nat.mod_lt _ (by decide), Nat.le_trans (Nat.sub_le _ _) c6, fun j => if j < 5 then pl (j + 1) else pl j, fun j hj => ⟨eR j hj, ?_⟩, p2, ?_, fun j hj => ?_⟩
  · dsimp only
    rw [eJ]
    by_cases e1 : j < 5
    · rw [if_pos e1]; exact (p1 (j + 1) (by omega)).2
    · rw [if_neg e1]; exact (p1 j hj).2
  · exact e6
  · have hj : j < O.cn - 1 := hj
    obtain ⟨q1, q2⟩ := p4 (j + 1) (by omega)
    show (if j < 5 then pl (j + 1) else pl j) % 4 = 0 ∧ q_row9 c (h2.I (if j < 5 then pl (j + 1) else pl j)) (O.OB (((O.nx + 6 - 1) % 6 + 5 - j) % 6))
    rw [if_pos (by omega), show ((O.nx + 6 - 1) % 6 + 5 - j) % 6 = (O.nx + 5 - (j + 1)) % 6 by omega, eI _ (fun e => by rw [e] at q1; omega) (p1 (j + 1) (by omega)).2.2.2.2]
    exact ⟨q1, q2⟩
/-- the history is emptied -/
theorem q_hx_rest (s : st ∈ h.J ∧ 2000 ≤ st ∧ st % 4 = 2) (n6 : O.nx < 6) (X : q_hp h a st c O pl) (e6 : h2.I (pl 6) 0 = nI 0) (eR : h2.R st = h.R st) (eJ : h2.J = h.J) : q_hx h2 a st c O.rest := by
  obtain ⟨p1, p2, p3, p4⟩ := X
  refine ⟨⟨by rw [eJ]; exact s.1, s.2⟩, n6, Nat.zero_le _, pl, fun j hj => ?_, p2, e6, fun j hj => absurd hj (Nat.not_lt_zero _)⟩
  rw [eR, eJ]; exact p1 j hj
end Q62
/-- a step of the law is done: 1 -/
def q_dX (h : q_Hp) (a st c : Nat) (O : q_O) (v : Option Value) (h1 : q_Hp) : Prop := v = some (.int (nI 1)) ∧ ∃ W1 O1 m1 ρ1, q_clX h1 W1 O1 ∧ q_smc (c + 1) W1 m1 ∧ q_nr (h1.I a) m1 ρ1 ∧ q_bd m1 ∧ h1.I a 899 = nI 0 ∧ q_inc m1 ∧ q_lg h h1 a ∧ q_hx h1 a st (c + 1) O1 ∧ O1.hs = O.hs ∧ O1.SW = O.SW
