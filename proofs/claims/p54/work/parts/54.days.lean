/-! THE DAYS' LOADS BEFORE A CHANGE'S DAY; HISTORY -/
theorem q_thr_cong {d d' v v' : Nat → Int32} {day : Int32} : ∀ n, (∀ i, i < n → d' i = d i ∧ v' i = v i) → q_thr d' v' day n = q_thr d v day n := by
  intro n
  induction n with
  | zero => intro _; rfl
  | succ n ih =>
    intro h
    unfold q_thr
    rw [ih fun i hi => h i (by omega), (h n (by omega)).1, (h n (by omega)).2]
theorem q_thr_c (d v : Nat → Int32) (day : Int32) : ∀ n, (q_thr d v day n = (-1, 200) ∧ ∀ i, i < n → ¬ (d i ≤ day ∧ -1 < d i)) ∨ ∃ i, i < n ∧ d i ≤ day ∧ -1 < d i ∧ q_thr d v day n = (d i, v i) ∧ ∀ j, j < n → d j ≤ day → d j ≤ d i := by
  intro n
  induction n with
  | zero => exact Or.inl ⟨rfl, fun i hi => absurd hi (Nat.not_lt_zero i)⟩
  | succ n ih =>
    unfold q_thr
    rcases ih with ⟨h1, h2⟩ | ⟨i, h1, h2, h3, h4, h5⟩
    · rw [h1]
      by_cases e : d n ≤ day ∧ (-1 : Int32) < d n
      · rw [if_pos e]
        refine Or.inr ⟨n, by omega, e.1, e.2, rfl, fun j hj hd => ?_⟩
        by_cases ej : j = n
        · rw [ej]; exact Int32.le_refl _
        · have := h2 j (by omega)
          have h6 : ¬ (-1 : Int32) < d j := fun h => this ⟨hd, h⟩
          have h7 := e.2
          rw [Int32.lt_iff_toInt_lt] at h6 h7
          rw [Int32.le_iff_toInt_le]; omega
      · rw [if_neg e]
        exact Or.inl ⟨rfl, fun i hi => if ei : i = n then (by rw [ei]; exact e) else h2 i (by omega)⟩
    · rw [h4]
      by_cases e : d n ≤ day ∧ d i < d n
      · rw [if_pos e]
        refine Or.inr ⟨n, by omega, e.1, Int32.lt_iff_toInt_lt.mpr (Int.lt_trans (Int32.lt_iff_toInt_lt.mp h3) (Int32.lt_iff_toInt_lt.mp e.2)), rfl, fun j hj hd => ?_⟩
        by_cases ej : j = n
        · rw [ej]; exact Int32.le_refl _
        · have h6 := h5 j (by omega) hd
          have h7 := e.2
          rw [Int32.le_iff_toInt_le] at h6 ⊢
          rw [Int32.lt_iff_toInt_lt] at h7
          omega
      · rw [if_neg e]
        refine Or.inr ⟨i, by omega, h2, h3, rfl, fun j hj hd => ?_⟩
        by_cases ej : j = n
        · subst ej
          have : ¬ d i < d j := fun h => e ⟨hd, h⟩
          rw [Int32.lt_iff_toInt_lt] at this
          rw [Int32.le_iff_toInt_le]; omega
        · exact h5 j (by omega) hd
/-- one test fewer, of a later day -/
theorem q_thr_rem {d v : Nat → Int32} {day : Int32} {n i : Nat} (dd : ∀ a, a < n → ∀ b, b < n → d a = d b → a = b) (hi : i < n) (hx : ¬ d i ≤ day) : (q_thr (va_up d i (d (n - 1))) (va_up v i (v (n - 1))) day (n - 1)).2 = (q_thr d v day n).2 := by
  rcases q_thr_c d v day n with ⟨h1, h2⟩ | ⟨k, h1, h2, h3, h4, h5⟩
  · rw [h1]
    rcases q_thr_c (va_up d i (d (n - 1))) (va_up v i (v (n - 1))) day (n - 1) with ⟨g1, g2⟩ | ⟨l, g1, g2, g3, g4, g5⟩
    · rw [g1]
    · by_cases e : l = i
      · rw [e, va_us] at g2 g3; exact absurd ⟨g2, g3⟩ (h2 (n - 1) (by omega))
      · rw [va_un _ _ e] at g2 g3; exact absurd ⟨g2, g3⟩ (h2 l (by omega))
  · have hki : k ≠ i := fun e => hx (by rw [← e]; exact h2)
    rw [h4]
    have hw : ∃ w, w < n - 1 ∧ va_up d i (d (n - 1)) w = d k ∧ va_up v i (v (n - 1)) w = v k := by
      by_cases e : k = n - 1
      · exact ⟨i, by omega, by rw [va_us, e], by rw [va_us, e]⟩
      · exact ⟨k, by omega, va_un _ _ hki, va_un _ _ hki⟩
    obtain ⟨w, w1, w2, w3⟩ := hw
    have back : ∀ l, l < n - 1 → ∃ y, y < n ∧ va_up d i (d (n - 1)) l = d y ∧ va_up v i (v (n - 1)) l = v y := fun l hl => by
      by_cases e : l = i
      · exact ⟨n - 1, by omega, by rw [e, va_us], by rw [e, va_us]⟩
      · exact ⟨l, by omega, va_un _ _ e, va_un _ _ e⟩
    rcases q_thr_c (va_up d i (d (n - 1))) (va_up v i (v (n - 1))) day (n - 1) with ⟨g1, g2⟩ | ⟨l, g1, g2, g3, g4, g5⟩
    · have := g2 w w1
      rw [w2] at this
      exact absurd ⟨h2, h3⟩ this
    · rw [g4]
      obtain ⟨y, y1, y2, y3⟩ := back l g1
      have a1 := g5 w w1 (by rw [w2]; exact h2)
      rw [w2, y2] at a1
      rw [y2] at g2
      have a2 := h5 y y1 g2
      have e : d y = d k := by
        rw [Int32.le_iff_toInt_le] at a1 a2
        exact Int32.toInt_inj.mp (by omega)
      have := dd y y1 k h1 e
      show va_up v i (v (n - 1)) l = v k
      rw [y3, this]
/-- a session's load -/
theorem q_ld_cg {X m : q_W} {s k : Nat} (h1 : X.th (nI (m.dy k)) = m.th (nI (m.dy k))) (h2 : X.bd = m.bd) (h3 : X.wt = m.wt) (hd : X.dy s = m.dy k) (hp : X.pn s = m.pn k) (hm : ∀ p, p < m.pn k → X.mn s p = m.mn k p ∧ X.it s p = m.it k p) : X.ld s = m.ld k := by
  unfold q_W.ld
  rw [hp]
  refine q_sum_cong fun p hp2 => ?_
  unfold q_W.z q_W.lt
  rw [(hm p hp2).1, (hm p hp2).2, hd, h1, h2, h3]
theorem q_sum_sh (F : Nat → Int32) (k : Nat) : ∀ n, (n ≤ k → q_sum (fun i => F (if k ≤ i then i + 1 else i)) n = q_sum F n) ∧ (k ≤ n → q_sum (fun i => F (if k ≤ i then i + 1 else i)) n + F k = q_sum F (n + 1)) := by
  intro n
  induction n with
  | zero =>
    refine ⟨fun _ => rfl, fun h => ?_⟩
    have : k = 0 := by omega
    subst this
    rfl
  | succ n ih =>
    have s1 : q_sum (fun i => F (if k ≤ i then i + 1 else i)) (n + 1) = q_sum (fun i => F (if k ≤ i then i + 1 else i)) n + F (if k ≤ n then n + 1 else n) := rfl
    constructor
    · intro h
      rw [s1, ih.1 (by omega), if_neg (by omega)]; rfl
    · intro h
      rw [s1]
      by_cases e : k = n + 1
      · rw [ih.1 (by omega), if_neg (by omega), e]; rfl
      · rw [if_pos (by omega)]
        have := ih.2 (by omega)
        show _ = q_sum F (n + 1) + F (n + 1)
        rw [← this]; ac_rfl
section QDD
variable {m : q_W} {N : Nat}
theorem q_D_id (c : ∀ i, m.σ i = i) {x : Nat} (hx : x < 200) : m.D x = q_sum (fun i => if m.dy i = x then m.ld i else 0) m.c := by
  rw [m.D_sum hx]
  exact q_sum_cong fun i _ => by rw [c]
theorem q_D_adS (c : ∀ i, m.σ i = i) {x d : Nat} (hx : x < 200) : (m.adS d).D x = m.D x := by
  rw [q_D_id (m := m.adS d) c hx, q_D_id c hx]
  show q_sum (fun i => if (m.adS d).dy i = x then (m.adS d).ld i else 0) m.c + (if (m.adS d).dy m.c = x then (m.adS d).ld m.c else 0) = _
  have h0 : (m.adS d).ld m.c = 0 := by
    unfold q_W.ld
    rw [show (m.adS d).pn m.c = 0 from va_us _ _ _]; rfl
  rw [h0, ite_self, Int32.add_zero]
  refine q_sum_cong fun i hi => ?_
  have e : i ≠ m.c := by omega
  have h1 : (m.adS d).dy i = m.dy i := va_un _ _ e
  rw [h1, q_ld_cg (X := m.adS d) (m := m) (s := i) (k := i) rfl rfl rfl h1 (va_un _ _ e) fun p _ => ⟨rfl, rfl⟩]
theorem q_D_one {X : q_W} (c : ∀ i, m.σ i = i) (c2 : ∀ i, X.σ i = i) (ec : X.c = m.c) {k x : Nat} (hx : x < 200) (h1 : X.dy k ≠ x) (h2 : m.dy k ≠ x) (h : ∀ i, i ≠ k → X.dy i = m.dy i ∧ X.ld i = m.ld i) : X.D x = m.D x := by
  rw [q_D_id c2 hx, q_D_id c hx, ec]
  refine q_sum_cong fun i _ => ?_
  by_cases e : i = k
  · rw [e, if_neg h1, if_neg h2]
  · rw [(h i e).1, (h i e).2]
theorem q_D_addP (c : ∀ i, m.σ i = i) {k x : Nat} {u y : Int32} (hx : x < 200) (h : x < m.dy k) : (m.addP k u y).D x = m.D x :=
  q_D_one (m := m) (X := m.addP k u y) c c rfl (k := k) hx (show m.dy k ≠ x by omega) (by omega) fun i hi => ⟨rfl, q_ld_cg (m := m) (X := m.addP k u y) rfl rfl rfl rfl (va_un _ _ hi) fun p _ => ⟨congrFun (va_un _ _ hi) p, congrFun (va_un _ _ hi) p⟩⟩
theorem q_D_clrP (c : ∀ i, m.σ i = i) {k x : Nat} (hx : x < 200) (h : x < m.dy k) : (m.clrP k).D x = m.D x :=
  q_D_one (m := m) (X := m.clrP k) c c rfl (k := k) hx (show m.dy k ≠ x by omega) (by omega) fun i hi => ⟨rfl, q_ld_cg (m := m) (X := m.clrP k) rfl rfl rfl rfl (va_un _ _ hi) fun p _ => ⟨rfl, rfl⟩⟩
theorem q_D_movS (c : ∀ i, m.σ i = i) {k x d : Nat} (hx : x < 200) (h : x < m.dy k) (h2 : x < d) : (m.movS k d).D x = m.D x :=
  q_D_one (m := m) (X := m.movS k d) c c rfl (k := k) hx (by show va_up m.dy k d k ≠ x; rw [va_us]; omega) (by omega) fun i hi => ⟨va_un _ _ hi, q_ld_cg (m := m) (X := m.movS k d) rfl rfl rfl (va_un _ _ hi) rfl fun p _ => ⟨rfl, rfl⟩⟩
theorem q_D_rmS (c : ∀ i, m.σ i = i) {k x : Nat} (hx : x < 200) (hk : k < m.c) (h : x < m.dy k) : (m.rmS k).D x = m.D x := by
  rw [q_D_id (m := m.rmS k) c hx, q_D_id c hx]
  have h1 := (q_sum_sh (fun i => if m.dy i = x then m.ld i else 0) k (m.c - 1)).2 (by omega)
  rw [show m.c - 1 + 1 = m.c by omega, if_neg (show ¬ m.dy k = x by omega), Int32.add_zero] at h1
  rw [← h1]
  refine q_sum_cong fun i hi => ?_
  have hi : i < m.c - 1 := hi
  have e : (if k ≤ i ∧ i < m.c - 1 then i + 1 else i) = if k ≤ i then i + 1 else i := by
    by_cases e : k ≤ i
    · rw [if_pos e, if_pos ⟨e, hi⟩]
    · rw [if_neg e, if_neg fun h => e h.1]
  have g1 : (m.rmS k).dy i = m.dy (if k ≤ i then i + 1 else i) := by rw [← e]; exact q_sf_e _ _ _ _
  have g2 : (m.rmS k).pn i = m.pn (if k ≤ i then i + 1 else i) := by rw [← e]; exact q_sf_e _ _ _ _
  have g3 : (m.rmS k).mn i = m.mn (if k ≤ i then i + 1 else i) := by rw [← e]; exact q_sf_e _ _ _ _
  have g4 : (m.rmS k).it i = m.it (if k ≤ i then i + 1 else i) := by rw [← e]; exact q_sf_e _ _ _ _
  have g5 : (m.rmS k).ld i = m.ld (if k ≤ i then i + 1 else i) := q_ld_cg rfl rfl rfl g1 g2 fun p _ => ⟨by rw [g3], by rw [g4]⟩
  rw [g1, g5]
theorem q_D_tst {X : q_W} (c : ∀ i, m.σ i = i) {x : Nat} (hx : x < 200) {n : Nat} {d v : Nat → Int32} (eX : X = m.sT n d v) (h : (m.sT n d v).th (nI x) = m.th (nI x)) : X.D x = m.D x := by
  subst eX
  rw [q_D_id (m := m.sT n d v) c hx, q_D_id c hx]
  refine q_sum_cong fun i _ => ?_
  show (if m.dy i = x then _ else _) = _
  by_cases e : m.dy i = x
  · rw [if_pos e, if_pos e]
    exact q_ld_cg (by rw [e]; exact h) rfl rfl rfl rfl fun p _ => ⟨rfl, rfl⟩
  · rw [if_neg e, if_neg e]
theorem q_D_addT (c : ∀ i, m.σ i = i) {x j : Nat} {t : Int32} (hx : x < 200) (hj : j ≤ 199) (h : x < j) : (m.sT (m.n + 1) (va_up m.d m.n (nI j)) (va_up m.v m.n t)).D x = m.D x := by
  refine q_D_tst c hx rfl ?_
  show (q_thr (va_up m.d m.n (nI j)) (va_up m.v m.n t) (nI x) (m.n + 1)).2 = (q_thr m.d m.v (nI x) m.n).2
  show (if va_up m.d m.n (nI j) m.n ≤ nI x ∧ _ then _ else q_thr (va_up m.d m.n (nI j)) (va_up m.v m.n t) (nI x) m.n).2 = _
  rw [if_neg fun h2 => by have h3 := h2.1; rw [va_us] at h3; have := (nI_leI (by omega) (by omega)).mp h3; omega]
  rw [q_thr_cong m.n fun i hi => ⟨va_un _ _ (by omega), va_un _ _ (by omega)⟩]
theorem q_D_remT (c : ∀ i, m.σ i = i) (dd : q_dd m) {x j i : Nat} (hx : x < 200) (hj : j ≤ 199) (hi : i < m.n) (hd : m.d i = nI j) (h : x < j) : (m.sT (m.n - 1) (va_up m.d i (m.d (m.n - 1))) (va_up m.v i (m.v (m.n - 1)))).D x = m.D x := by
  refine q_D_tst c hx rfl ?_
  exact q_thr_rem dd hi (by rw [hd, nI_leI (by omega) (by omega)]; omega)
end QDD
theorem q_smc.D {c : Nat} {W m : q_W} (s : q_smc c W m) {x : Nat} (hx : x < 200) : W.D x = m.D x := by
  obtain ⟨⟨N, _, a, ⟨τ, b⟩, k⟩, _⟩ := s
  exact q_D_eq a b k hx
theorem q_smc.σ {c : Nat} {W m : q_W} (s : q_smc c W m) : ∀ i, m.σ i = i := by
  obtain ⟨⟨N, _, a, ⟨τ, b⟩, k⟩, _⟩ := s
  exact k.1
theorem q_dec_cong {b : Int32} {L L' : Nat → Int32} : ∀ n, (∀ x, x < n → L' x = L x) → q_dec b L' n = q_dec b L n := by
  intro n
  induction n with
  | zero => intro _; rfl
  | succ n ih =>
    intro h
    unfold q_dec
    rw [ih fun x hx => h x (by omega), h n (by omega)]
/-- the trend, forgotten from d on -/
theorem q_Tr.again {h h' : q_Hp} {W W' : q_W} {k d : Nat} (T : q_Tr h W k) (F : q_tf h h' d) (hk : k ≤ 200) (ht : min k d ≤ W'.t + 1) (hD : ∀ x, x < d → x < 200 → W'.D x = W.D x) : ∃ k', q_Tr h' W' k' := by
  obtain ⟨t1, t2, t3, t4⟩ := T
  obtain ⟨f1, f2, f3⟩ := F
  refine ⟨min k d, f3 k t1 hk, ht, fun x hx => ?_, fun x hx => ?_⟩
  · rw [f1, t3 x (by omega), q_dec_cong (L' := W'.D) (x + 1) fun y hy => hD y (by omega) (by omega)]
  · rw [f2, t4 x (by omega), q_dec_cong (L' := W'.D) (x + 1) fun y hy => hD y (by omega) (by omega)]
theorem q_mu.cl {h h' : q_Hp} {W W' : q_W} {O O' : q_O} {d : Nat} (C : q_clX h W O) (M : q_mu h h' W' O' d) (ht : d = 0 ∨ W.t ≤ W'.t) (hD : ∀ x, x < d → x < 200 → W'.D x = W.D x) : q_clX h' W' O' := by
  obtain ⟨k, T⟩ := C.2
  have hk := T.2.1
  have h9 := C.1.1.t9
  exact ⟨M.1, T.again M.2.2 (by omega) (by omega) hD⟩
/-! what they keep -/
def q_hs (c : Nat) (O : q_O) (P : q_P) : Prop := O.nx = P.tp ∧ O.cn = P.un ∧ (∀ a, a < P.un → q_smc c (O.OB ((P.tp + 5 - a) % 6)) (P.ob ((P.tp + 6 - a) % 6))) ∧ O.hs = P.sv ∧ (P.sv = 1 → q_smc c O.SW P.sn) ∧ O.ll = P.wr ∧ ∀ k, k < P.wr → O.ln k = P.ln k ∧ ∃ n, n < 65536 ∧ P.ln k = nI n
section QHS
variable {c : Nat} {O : q_O} {P : q_P}
theorem q_hs.le (s : q_hs c O P) {c' : Nat} (h : c ≤ c') : q_hs c' O P := ⟨s.1, s.2.1, fun a ha => (s.2.2.1 a ha).le h, s.2.2.2.1, fun e => (s.2.2.2.2.1 e).le h, s.2.2.2.2.2⟩
theorem q_hs.kept (s : q_hs c O P) (htp : P.tp < 6) (hun : P.un ≤ 6) {Y m : q_W} (k : q_smc c Y m) : q_hs c (O.kept Y) (P.kept m) := by
  obtain ⟨s1, s2, s3, s4⟩ := s
  refine ⟨?_, ?_, fun a ha => ?_, s4⟩
  · show (O.nx + 1) % 6 = (P.tp + 1) % 6
    rw [s1]
  · show min (O.cn + 1) 6 = min 6 (P.un + 1)
    rw [s2, Nat.min_comm]
  · have ha : a < min 6 (P.un + 1) := ha
    show q_smc c (if ((P.tp + 1) % 6 + 5 - a) % 6 = O.nx then Y else O.OB (((P.tp + 1) % 6 + 5 - a) % 6)) (if ((P.tp + 1) % 6 + 6 - a) % 6 = (P.tp + 1) % 6 then m else P.ob (((P.tp + 1) % 6 + 6 - a) % 6))
    rw [s1]
    by_cases e : a = 0
    · rw [if_pos (by omega), if_pos (by omega)]; exact k
    · rw [if_neg (by omega), if_neg (by omega), show ((P.tp + 1) % 6 + 5 - a) % 6 = (P.tp + 5 - (a - 1)) % 6 by omega, show ((P.tp + 1) % 6 + 6 - a) % 6 = (P.tp + 6 - (a - 1)) % 6 by omega]
      exact s3 (a - 1) (by omega)
theorem q_hs.back (s : q_hs c O P) (htp : P.tp < 6) (hun : P.un ≤ 6) (h0 : P.un ≠ 0) : q_hs c O.back P.back ∧ q_smc c (O.OB ((O.nx + 6 - 1) % 6)) (P.ob P.tp) := by
  obtain ⟨s1, s2, s3, s4⟩ := s
  refine ⟨⟨?_, ?_, fun a ha => ?_, s4⟩, ?_⟩
  · show (O.nx + 6 - 1) % 6 = (P.tp + 6 - 1) % 6
    rw [s1]
  · show O.cn - 1 = P.un - 1
    rw [s2]
  · have ha : a < P.un - 1 := ha
    show q_smc c (O.OB (((P.tp + 6 - 1) % 6 + 5 - a) % 6)) (P.ob (((P.tp + 6 - 1) % 6 + 6 - a) % 6))
    rw [show ((P.tp + 6 - 1) % 6 + 5 - a) % 6 = (P.tp + 5 - (a + 1)) % 6 by omega, show ((P.tp + 6 - 1) % 6 + 6 - a) % 6 = (P.tp + 6 - (a + 1)) % 6 by omega]
    exact s3 (a + 1) (by omega)
  · have := s3 0 (by omega)
    rw [show (P.tp + 6 - 0) % 6 = P.tp by omega] at this
    rw [show (O.nx + 6 - 1) % 6 = (P.tp + 5 - 0) % 6 by omega]
    exact this
theorem q_hs.savd (s : q_hs c O P) {Y m : q_W} (k : q_smc c Y m) : q_hs c (O.savd Y) (P.savd m) := ⟨s.1, s.2.1, s.2.2.1, rfl, fun _ => k, s.2.2.2.2.2⟩
theorem q_hs.rest (s : q_hs c O P) : q_hs c O.rest P.rest := ⟨s.1, rfl, fun a ha => absurd ha (Nat.not_lt_zero a), s.2.2.2⟩
theorem q_hs.wrt (s : q_hs c O P) {l l' : Nat → Int32} (h : ∀ k, k < 13 → l k = l' k ∧ ∃ n, n < 65536 ∧ l' k = nI n) : q_hs c (O.wrt l) (P.wrt l') := ⟨s.1, s.2.1, s.2.2.1, s.2.2.2.1, s.2.2.2.2.1, rfl, h⟩
end QHS
