/-! THE STATE OF NOW IN FIVE GROUPS; WHAT CHANGES IT -/
def q_gA (I : Nat → Nat → Int32) (t : Nat) : Prop := I 2 0 = nI t ∧ t ≤ 199
def q_gT (I : Nat → Nat → Int32) (n : Nat) (d v : Nat → Int32) : Prop := I 3 2 = nI n ∧ n ≤ 10 ∧ I 4 = d ∧ I 5 = v
def q_gZ (I : Nat → Nat → Int32) (bd wt : Nat → Int32) : Prop := I 7 = bd ∧ I 8 = wt
def q_gS (I : Nat → Nat → Int32) (R : Nat → Nat → Option Nat) (c : Nat) (nx : Int32) (σ : Nat → Nat) (id : Nat → Int32) (dy pn : Nat → Nat) (mn it : Nat → Nat → Int32) : Prop :=
  I 9 1 = nI c ∧ c ≤ 40 ∧ I 9 2 = nx ∧ (∀ i, i < 40 → R 10 i = some (11 + 3 * σ i) ∧ σ i < 40) ∧
  (∀ s, s < 40 → I (11 + 3 * s) 0 = id s ∧ I (11 + 3 * s) 1 = nI (dy s) ∧ dy s ≤ 199 ∧ I (11 + 3 * s) 2 = nI (pn s) ∧ pn s ≤ 8 ∧ I (12 + 3 * s) = mn s ∧ I (13 + 3 * s) = it s)
def q_gP (I : Nat → Nat → Int32) (pe pf pc : Nat) (tg : Nat → Int32) : Prop := I 131 0 = nI pe ∧ pe ≤ 1 ∧ I 131 1 = nI pf ∧ pf ≤ 199 ∧ I 131 2 = nI pc ∧ pc ≤ 28 ∧ I 132 = tg
theorem q_vw.mk {h : q_Hp} {t n c pe pf pc : Nat} {d v bd wt id tg : Nat → Int32} {nx : Int32} {σ dy pn : Nat → Nat} {mn it : Nat → Nat → Int32} (a : q_gA h.I t) (b : q_gT h.I n d v) (z : q_gZ h.I bd wt) (s : q_gS h.I h.R c nx σ id dy pn mn it) (p : q_gP h.I pe pf pc tg) :
    q_vw h (t, (n, d, v), (bd, wt), (c, nx, σ, id, dy, pn, mn, it), (pe, pf, pc, tg)) :=
  ⟨a.1, a.2, b.1, b.2.1, b.2.2.1, b.2.2.2, z.1, z.2, s.1, s.2.1, s.2.2.1, s.2.2.2.1, s.2.2.2.2, p.1, p.2.1, p.2.2.1, p.2.2.2.1, p.2.2.2.2.1, p.2.2.2.2.2.1, p.2.2.2.2.2.2⟩
theorem q_vw.gA {h : q_Hp} {W : q_W} (V : q_vw h W) : q_gA h.I W.t := ⟨V.t, V.t9⟩
theorem q_vw.gT {h : q_Hp} {W : q_W} (V : q_vw h W) : q_gT h.I W.n W.d W.v := ⟨V.n, V.n10, V.d, V.v⟩
theorem q_vw.gZ {h : q_Hp} {W : q_W} (V : q_vw h W) : q_gZ h.I W.bd W.wt := ⟨V.bd, V.wt⟩
theorem q_vw.gS {h : q_Hp} {W : q_W} (V : q_vw h W) : q_gS h.I h.R W.c W.nx W.σ W.id W.dy W.pn W.mn W.it := ⟨V.c, V.c40, V.nx, V.2.2.2.2.2.2.2.2.2.2.2.1, V.2.2.2.2.2.2.2.2.2.2.2.2.1⟩
theorem q_vw.gP {h : q_Hp} {W : q_W} (V : q_vw h W) : q_gP h.I W.pe W.pf W.pc W.tg := ⟨V.pe, V.pe1, V.pf, V.pf9, V.pc, V.pc28, V.tg⟩
theorem q_gA.cong {I I' : Nat → Nat → Int32} {t : Nat} (g : q_gA I t) (e : I' 2 = I 2) : q_gA I' t := by unfold q_gA; rw [e]; exact g
theorem q_gT.cong {I I' : Nat → Nat → Int32} {n : Nat} {d v : Nat → Int32} (g : q_gT I n d v) (e : I' 3 = I 3) (e2 : I' 4 = I 4) (e3 : I' 5 = I 5) : q_gT I' n d v := by unfold q_gT; rw [e, e2, e3]; exact g
theorem q_gZ.cong {I I' : Nat → Nat → Int32} {b w : Nat → Int32} (g : q_gZ I b w) (e : I' 7 = I 7) (e2 : I' 8 = I 8) : q_gZ I' b w := by unfold q_gZ; rw [e, e2]; exact g
theorem q_gS.cong {I I' : Nat → Nat → Int32} {R R' : Nat → Nat → Option Nat} {c : Nat} {nx : Int32} {σ : Nat → Nat} {id : Nat → Int32} {dy pn : Nat → Nat} {mn it : Nat → Nat → Int32} (g : q_gS I R c nx σ id dy pn mn it) (e : ∀ p, 9 ≤ p → p < 131 → I' p = I p) (e2 : R' 10 = R 10) : q_gS I' R' c nx σ id dy pn mn it := by
  obtain ⟨h1, h2, h3, h4, h5⟩ := g
  refine ⟨by rw [e 9 (by omega) (by omega)]; exact h1, h2, by rw [e 9 (by omega) (by omega)]; exact h3, by rw [e2]; exact h4, fun s hs => ?_⟩
  rw [e (11 + 3 * s) (by omega) (by omega), e (12 + 3 * s) (by omega) (by omega), e (13 + 3 * s) (by omega) (by omega)]
  exact h5 s hs
theorem q_gP.cong {I I' : Nat → Nat → Int32} {pe pf pc : Nat} {tg : Nat → Int32} (g : q_gP I pe pf pc tg) (e : I' 131 = I 131) (e2 : I' 132 = I 132) : q_gP I' pe pf pc tg := by unfold q_gP; rw [e, e2]; exact g
def q_W.sA (W : q_W) (t : Nat) : q_W := (t, (W.n, W.d, W.v), (W.bd, W.wt), (W.c, W.nx, W.σ, W.id, W.dy, W.pn, W.mn, W.it), (W.pe, W.pf, W.pc, W.tg))
def q_W.sT (W : q_W) (n : Nat) (d v : Nat → Int32) : q_W := (W.t, (n, d, v), (W.bd, W.wt), (W.c, W.nx, W.σ, W.id, W.dy, W.pn, W.mn, W.it), (W.pe, W.pf, W.pc, W.tg))
def q_W.sZ (W : q_W) (bd wt : Nat → Int32) : q_W := (W.t, (W.n, W.d, W.v), (bd, wt), (W.c, W.nx, W.σ, W.id, W.dy, W.pn, W.mn, W.it), (W.pe, W.pf, W.pc, W.tg))
def q_W.sS (W : q_W) (c : Nat) (nx : Int32) (σ : Nat → Nat) (id : Nat → Int32) (dy pn : Nat → Nat) (mn it : Nat → Nat → Int32) : q_W := (W.t, (W.n, W.d, W.v), (W.bd, W.wt), (c, nx, σ, id, dy, pn, mn, it), (W.pe, W.pf, W.pc, W.tg))
def q_W.sP (W : q_W) (pe pf pc : Nat) (tg : Nat → Int32) : q_W := (W.t, (W.n, W.d, W.v), (W.bd, W.wt), (W.c, W.nx, W.σ, W.id, W.dy, W.pn, W.mn, W.it), (pe, pf, pc, tg))
/-- only the State of now has changed -/
def q_st (h h' : q_Hp) : Prop := (∀ p, p < 2 ∨ 133 ≤ p → h'.I p = h.I p) ∧ (∀ p, p ≠ 10 → h'.R p = h.R p) ∧ h'.J = h.J ∧ h'.E = h.E ∧ h'.n = h.n
theorem q_st.rf {h : q_Hp} : q_st h h := ⟨fun _ _ => rfl, fun _ _ => rfl, rfl, rfl, rfl⟩
theorem q_st.tr {h h1 h2 : q_Hp} (a : q_st h h1) (b : q_st h1 h2) : q_st h h2 := ⟨fun p hp => (b.1 p hp).trans (a.1 p hp), fun p hp => (b.2.1 p hp).trans (a.2.1 p hp), b.2.2.1.trans a.2.2.1, b.2.2.2.1.trans a.2.2.2.1, b.2.2.2.2.trans a.2.2.2.2⟩
theorem q_st.fr {h h' : q_Hp} (F : q_st h h') : q_fr h h' := ⟨fun p hp => F.1 p (by omega), F.2⟩
theorem q_st.tf {h h' : q_Hp} (F : q_st h h') : q_tf h h' 200 := q_tf.of (F.1 _ (by omega)) (F.1 _ (by omega)) (F.1 _ (by omega))
theorem q_st.ob {h h' : q_Hp} {O : q_O} (F : q_st h h') (C : q_ob h O) : q_ob h' O := C.cong (fun p hp => F.1 p (by omega)) F.2.1
theorem q_st.set {h h1 : q_Hp} (a : q_st h h1) {p f : Nat} {v : Int32} (hp : 2 ≤ p) (hp2 : p < 133) : q_st h (h1.setI p f v) := ⟨fun q hq => (q_sIn _ _ _ (by omega)).trans (a.1 q hq), a.2⟩
theorem q_st.ord {h h1 : q_Hp} (a : q_st h h1) {g : Nat → Option Nat} : q_st h (h1.rowR 10 g) := ⟨a.1, fun q hq => (q_rRn _ _ hq).trans (a.2.1 q hq), a.2.2⟩
/-! today, tests, zones, plan -/
theorem q_vw.pass {h : q_Hp} {W : q_W} (V : q_vw h W) {t : Nat} (ht : t ≤ 199) : q_vw (h.setI 2 0 (nI t)) (W.sA t) := q_vw.mk ⟨rfl, ht⟩ (V.gT.cong rfl rfl rfl) (V.gZ.cong rfl rfl) (V.gS.cong (fun p _ _ => q_sIn _ _ _ (by omega)) rfl) (V.gP.cong rfl rfl)
theorem q_vw.addT {h : q_Hp} {W : q_W} (V : q_vw h W) {x y : Int32} (hn : W.n < 10) : q_vw (((h.setI 4 W.n x).setI 5 W.n y).setI 3 2 (nI (W.n + 1))) (W.sT (W.n + 1) (va_up W.d W.n x) (va_up W.v W.n y)) :=
  q_vw.mk (V.gA.cong rfl) ⟨rfl, by omega, by rw [← V.d]; rfl, by rw [← V.v]; rfl⟩ (V.gZ.cong rfl rfl) (V.gS.cong (fun p _ _ => by rw [q_sIn _ _ _ (by omega), q_sIn _ _ _ (by omega), q_sIn _ _ _ (by omega)]) rfl) (V.gP.cong rfl rfl)
theorem q_vw.remT {h : q_Hp} {W : q_W} (V : q_vw h W) {i : Nat} : q_vw (((h.setI 3 2 (nI (W.n - 1))).setI 4 i (W.d (W.n - 1))).setI 5 i (W.v (W.n - 1))) (W.sT (W.n - 1) (va_up W.d i (W.d (W.n - 1))) (va_up W.v i (W.v (W.n - 1)))) :=
  q_vw.mk (V.gA.cong rfl) ⟨rfl, by have := V.n10; omega, by rw [← V.d]; rfl, by rw [← V.v]; rfl⟩ (V.gZ.cong rfl rfl) (V.gS.cong (fun p _ _ => by rw [q_sIn _ _ _ (by omega), q_sIn _ _ _ (by omega), q_sIn _ _ _ (by omega)]) rfl) (V.gP.cong rfl rfl)
theorem q_vw.bnd {h : q_Hp} {W : q_W} (V : q_vw h W) {z : Nat} {x : Int32} : q_vw (h.setI 7 z x) (W.sZ (va_up W.bd z x) W.wt) :=
  q_vw.mk (V.gA.cong rfl) (V.gT.cong rfl rfl rfl) ⟨by rw [← V.bd]; rfl, V.wt⟩ (V.gS.cong (fun p _ _ => q_sIn _ _ _ (by omega)) rfl) (V.gP.cong rfl rfl)
theorem q_vw.wgt {h : q_Hp} {W : q_W} (V : q_vw h W) {z : Nat} {x : Int32} : q_vw (h.setI 8 z x) (W.sZ W.bd (va_up W.wt z x)) :=
  q_vw.mk (V.gA.cong rfl) (V.gT.cong rfl rfl rfl) ⟨V.bd, by rw [← V.wt]; rfl⟩ (V.gS.cong (fun p _ _ => q_sIn _ _ _ (by omega)) rfl) (V.gP.cong rfl rfl)
theorem q_vw.plan {h : q_Hp} {W : q_W} (V : q_vw h W) : q_vw (((h.setI 131 0 (nI 1)).setI 131 1 (nI W.t)).setI 131 2 (nI 0)) (W.sP 1 W.t 0 W.tg) :=
  q_vw.mk (V.gA.cong rfl) (V.gT.cong rfl rfl rfl) (V.gZ.cong rfl rfl) (V.gS.cong (fun p _ _ => by rw [q_sIn _ _ _ (by omega), q_sIn _ _ _ (by omega), q_sIn _ _ _ (by omega)]) rfl) ⟨rfl, by omega, rfl, V.t9, rfl, by omega, V.tg⟩
theorem q_vw.targ {h : q_Hp} {W : q_W} (V : q_vw h W) {x : Int32} (hp : W.pc < 28) : q_vw ((h.setI 132 W.pc x).setI 131 2 (nI (W.pc + 1))) (W.sP W.pe W.pf (W.pc + 1) (va_up W.tg W.pc x)) :=
  q_vw.mk (V.gA.cong rfl) (V.gT.cong rfl rfl rfl) (V.gZ.cong rfl rfl) (V.gS.cong (fun p _ _ => by rw [q_sIn _ _ _ (by omega), q_sIn _ _ _ (by omega)]) rfl) ⟨V.pe, V.pe1, V.pf, V.pf9, rfl, by omega, by rw [← V.tg]; rfl⟩
/-! sessions -/
def q_W.addP (W : q_W) (s : Nat) (x y : Int32) : q_W := W.sS W.c W.nx W.σ W.id W.dy (va_up W.pn s (W.pn s + 1)) (va_up W.mn s (va_up (W.mn s) (W.pn s) x)) (va_up W.it s (va_up (W.it s) (W.pn s) y))
def q_W.clrP (W : q_W) (s : Nat) : q_W := W.sS W.c W.nx W.σ W.id W.dy (va_up W.pn s 0) W.mn W.it
def q_W.addS (W : q_W) (d : Nat) : q_W := W.sS (W.c + 1) (W.nx + nI 1) W.σ (va_up W.id (W.σ W.c) W.nx) (va_up W.dy (W.σ W.c) d) (va_up W.pn (W.σ W.c) 0) W.mn W.it
def q_W.movS (W : q_W) (s d : Nat) : q_W := W.sS W.c W.nx W.σ W.id (va_up W.dy s d) W.pn W.mn W.it
def q_W.sc (W : q_W) (c : Nat) : q_W := W.sS c W.nx W.σ W.id W.dy W.pn W.mn W.it
theorem q_vw.addP {h : q_Hp} {W : q_W} (V : q_vw h W) {s : Nat} {x y : Int32} (hs : s < 40) (hp : W.pn s < 8) : q_vw (((h.setI (12 + 3 * s) (W.pn s) x).setI (13 + 3 * s) (W.pn s) y).setI (11 + 3 * s) 2 (nI (W.pn s + 1))) (W.addP s x y) := by
  refine q_vw.mk (V.gA.cong ?_) (V.gT.cong ?_ ?_ ?_) (V.gZ.cong ?_ ?_) ⟨?_, V.c40, ?_, V.gS.2.2.2.1, fun r hr => ?_⟩ (V.gP.cong ?_ ?_)
  case refine_9 =>
    obtain ⟨a1, a2, a3, a4, a5, a6, a7⟩ := V.gS.2.2.2.2 r hr
    by_cases e : r = s
    · subst e
      refine ⟨?_, ?_, a3, ?_, ?_, ?_, ?_⟩
      · rw [q_sI, va_un _ _ (by decide), q_sIn _ _ _ (by omega), q_sIn _ _ _ (by omega)]; exact a1
      · rw [q_sI, va_un _ _ (by decide), q_sIn _ _ _ (by omega), q_sIn _ _ _ (by omega)]; exact a2
      · rw [q_sI, va_us, va_us]
      · rw [va_us]; omega
      · rw [q_sIn _ _ _ (by omega), q_sIn _ _ _ (by omega), q_sI, va_us, a6]
      · rw [q_sIn _ _ _ (by omega), q_sI, va_us, q_sIn _ _ _ (by omega), a7]
    · rw [va_un _ _ e, va_un _ _ e, va_un _ _ e]
      refine ⟨?_, ?_, a3, ?_, a5, ?_, ?_⟩
      · rw [q_sIn _ _ _ (by omega), q_sIn _ _ _ (by omega), q_sIn _ _ _ (by omega)]; exact a1
      · rw [q_sIn _ _ _ (by omega), q_sIn _ _ _ (by omega), q_sIn _ _ _ (by omega)]; exact a2
      · rw [q_sIn _ _ _ (by omega), q_sIn _ _ _ (by omega), q_sIn _ _ _ (by omega)]; exact a4
      · rw [q_sIn _ _ _ (by omega), q_sIn _ _ _ (by omega), q_sIn _ _ _ (by omega)]; exact a6
      · rw [q_sIn _ _ _ (by omega), q_sIn _ _ _ (by omega), q_sIn _ _ _ (by omega)]; exact a7
  case refine_7 => rw [q_sIn _ _ _ (by omega), q_sIn _ _ _ (by omega), q_sIn _ _ _ (by omega)]; exact V.c
  case refine_8 => rw [q_sIn _ _ _ (by omega), q_sIn _ _ _ (by omega), q_sIn _ _ _ (by omega)]; exact V.nx
  all_goals rw [q_sIn _ _ _ (by omega), q_sIn _ _ _ (by omega), q_sIn _ _ _ (by omega)]
theorem q_vw.clrP {h : q_Hp} {W : q_W} (V : q_vw h W) {s : Nat} (hs : s < 40) : q_vw (h.setI (11 + 3 * s) 2 (nI 0)) (W.clrP s) := by
  refine q_vw.mk (V.gA.cong ?_) (V.gT.cong ?_ ?_ ?_) (V.gZ.cong ?_ ?_) ⟨?_, V.c40, ?_, V.gS.2.2.2.1, fun r hr => ?_⟩ (V.gP.cong ?_ ?_)
  case refine_9 =>
    obtain ⟨a1, a2, a3, a4, a5, a6, a7⟩ := V.gS.2.2.2.2 r hr
    rw [q_sIn _ _ _ (show 12 + 3 * r ≠ 11 + 3 * s by omega), q_sIn _ _ _ (show 13 + 3 * r ≠ 11 + 3 * s by omega)]
    by_cases e : r = s
    · subst e
      refine ⟨?_, ?_, a3, ?_, ?_, a6, a7⟩
      · rw [q_sI, va_un _ _ (by decide)]; exact a1
      · rw [q_sI, va_un _ _ (by decide)]; exact a2
      · rw [q_sI, va_us, va_us]
      · rw [va_us]; omega
    · rw [va_un _ _ e, q_sIn _ _ _ (by omega)]
      exact ⟨a1, a2, a3, a4, a5, a6, a7⟩
  case refine_7 => rw [q_sIn _ _ _ (by omega)]; exact V.c
  case refine_8 => rw [q_sIn _ _ _ (by omega)]; exact V.nx
  all_goals rw [q_sIn _ _ _ (by omega)]
theorem q_vw.movS {h : q_Hp} {W : q_W} (V : q_vw h W) {s d : Nat} (hs : s < 40) (hd : d ≤ 199) : q_vw (h.setI (11 + 3 * s) 1 (nI d)) (W.movS s d) := by
  refine q_vw.mk (V.gA.cong ?_) (V.gT.cong ?_ ?_ ?_) (V.gZ.cong ?_ ?_) ⟨?_, V.c40, ?_, V.gS.2.2.2.1, fun r hr => ?_⟩ (V.gP.cong ?_ ?_)
  case refine_9 =>
    obtain ⟨a1, a2, a3, a4, a5, a6, a7⟩ := V.gS.2.2.2.2 r hr
    rw [q_sIn _ _ _ (show 12 + 3 * r ≠ 11 + 3 * s by omega), q_sIn _ _ _ (show 13 + 3 * r ≠ 11 + 3 * s by omega)]
    by_cases e : r = s
    · subst e
      refine ⟨?_, ?_, ?_, ?_, a5, a6, a7⟩
      · rw [q_sI, va_un _ _ (by decide)]; exact a1
      · rw [q_sI, va_us, va_us]
      · rw [va_us]; exact hd
      · rw [q_sI, va_un _ _ (by decide)]; exact a4
    · rw [va_un _ _ e, q_sIn _ _ _ (by omega)]
      exact ⟨a1, a2, a3, a4, a5, a6, a7⟩
  case refine_7 => rw [q_sIn _ _ _ (by omega)]; exact V.c
  case refine_8 => rw [q_sIn _ _ _ (by omega)]; exact V.nx
  all_goals rw [q_sIn _ _ _ (by omega)]
/-- the cells of a session that is added, before it is settled -/
def q_adS (h : q_Hp) (W : q_W) (d : Nat) : q_Hp := ((((h.setI (11 + 3 * W.σ W.c) 0 W.nx).setI (11 + 3 * W.σ W.c) 1 (nI d)).setI (11 + 3 * W.σ W.c) 2 (nI 0)).setI 9 1 (nI (W.c + 1))).setI 9 2 (W.nx + nI 1)
theorem q_vw.addS {h : q_Hp} {W : q_W} (V : q_vw h W) {d : Nat} (hc : W.c < 40) (hd : d ≤ 199) : q_vw (q_adS h W d) (W.addS d) := by
  have hs := V.s40 hc
  have hn : ∀ p, p ≠ 9 → p ≠ 11 + 3 * W.σ W.c → (q_adS h W d).I p = h.I p := fun p h1 h2 => by
    unfold q_adS; rw [q_sIn _ _ _ h1, q_sIn _ _ _ h1, q_sIn _ _ _ h2, q_sIn _ _ _ h2, q_sIn _ _ _ h2]
  have h9 : (q_adS h W d).I 9 = va_up (va_up (h.I 9) 1 (nI (W.c + 1))) 2 (W.nx + nI 1) := by
    unfold q_adS; rw [q_sI, q_sI, q_sIn _ _ _ (by omega), q_sIn _ _ _ (by omega), q_sIn _ _ _ (by omega)]
  have hp : (q_adS h W d).I (11 + 3 * W.σ W.c) = va_up (va_up (va_up (h.I (11 + 3 * W.σ W.c)) 0 W.nx) 1 (nI d)) 2 (nI 0) := by
    unfold q_adS; rw [q_sIn _ _ _ (by omega), q_sIn _ _ _ (by omega), q_sI, q_sI, q_sI]
  refine q_vw.mk (V.gA.cong (hn _ (by omega) (by omega))) (V.gT.cong (hn _ (by omega) (by omega)) (hn _ (by omega) (by omega)) (hn _ (by omega) (by omega))) (V.gZ.cong (hn _ (by omega) (by omega)) (hn _ (by omega) (by omega))) ⟨?_, by omega, ?_, V.gS.2.2.2.1, fun r hr => ?_⟩ (V.gP.cong (hn _ (by omega) (by omega)) (hn _ (by omega) (by omega)))
  · rw [h9, va_un _ _ (by decide), va_us]
  · rw [h9, va_us]
  · obtain ⟨a1, a2, a3, a4, a5, a6, a7⟩ := V.gS.2.2.2.2 r hr
    rw [hn (12 + 3 * r) (by omega) (by omega), hn (13 + 3 * r) (by omega) (by omega)]
    by_cases e : r = W.σ W.c
    · subst e
      rw [hp, va_us, va_us, va_us]
      refine ⟨?_, ?_, hd, ?_, (by rw [va_us]; omega), a6, a7⟩
      · rw [va_un _ _ (by decide), va_un _ _ (by decide), va_us]
      · rw [va_un _ _ (by decide), va_us]
      · rw [va_us]
    · rw [va_un _ _ e, va_un _ _ e, va_un _ _ e, hn (11 + 3 * r) (by omega) (by omega)]
      exact ⟨a1, a2, a3, a4, a5, a6, a7⟩
theorem q_vw.sc {h : q_Hp} {W : q_W} (V : q_vw h W) {c : Nat} (hc : c ≤ 40) : q_vw (h.setI 9 1 (nI c)) (W.sc c) :=
  q_vw.mk (V.gA.cong rfl) (V.gT.cong rfl rfl rfl) (V.gZ.cong rfl rfl) ⟨rfl, hc, V.nx, V.gS.2.2.2.1, fun s hs => by
    rw [q_sIn _ _ _ (by omega), q_sIn _ _ _ (by omega), q_sIn _ _ _ (by omega)]; exact V.gS.2.2.2.2 s hs⟩ (V.gP.cong rfl rfl)
/-- what settling has found: place p is taken to r -/
def q_sd (W : q_W) (p r : Nat) : Prop := r < W.c ∧ (∀ k, r ≤ k → k < p → q_bf W (W.σ p) (W.σ k)) ∧ (∀ k, p < k → k ≤ r → q_bf W (W.σ k) (W.σ p)) ∧ (r ≤ p → r = 0 ∨ ¬ q_bf W (W.σ p) (W.σ (r - 1))) ∧ (p ≤ r → r + 1 = W.c ∨ ¬ q_bf W (W.σ (r + 1)) (W.σ p))
theorem g_X6_append {Φ : q_Fx} {h : q_Hp} (K : q_Lk Φ h.R h.n) {W : q_W} (V : q_vw h W) (hn : W.n < 10) {x y : Int32} : q_Ct Φ false yX6_append cX6_append mX6_append [.ref 3, .int x, .int y] h (q_is none (((h.setI 4 W.n x).setI 5 W.n y).setI 3 2 (nI (W.n + 1)))) := by
  refine q_enter K.st rfl rfl (by decide) rfl (Nat.le_of_ble_eq_true rfl) (L := [_, _, _]) rfl ?_
  refine q_aload_n dX6_append_0 rfl ?_
  refine fRX6_9 (o := some 4) dX6_append_1 rfl (by decide) (K.le (by decide)) (K.lk rfl) ?_
  refine q_rfS ?_
  refine q_aload_n dX6_append_4 rfl ?_
  refine fIX6_18 dX6_append_5 rfl (by decide) (K.le (by decide)) ?_
  refine q_tv (show _ = (nI (W.n)) from V.n) ?_
  refine q_iload_n dX6_append_8 rfl ?_
  refine q_iastN (len := 10) rfl dX6_append_9 (by decide) (K.le (by decide)) rfl (by omega) (by decide) ?_
  refine q_aload_n dX6_append_10 rfl ?_
  refine fRX6_15 (o := some 5) dX6_append_11 rfl (by decide) (K.le (by decide)) (K.lk rfl) ?_
  refine q_rfS ?_
  refine q_aload_n dX6_append_14 rfl ?_
  refine fIX6_18 dX6_append_15 rfl (by decide) (K.le (by decide)) ?_
  refine q_tv (show _ = (nI (W.n)) from ((congrFun (q_sIn _ _ _ (by omega)) _).trans V.n)) ?_
  refine q_iload_n dX6_append_18 rfl ?_
  refine q_iastN (len := 10) rfl dX6_append_19 (by decide) (K.le (by decide)) rfl (by omega) (by decide) ?_
  refine q_aload_n dX6_append_20 rfl ?_
  refine q_dup dX6_append_21 rfl ?_
  refine fIX6_18 dX6_append_22 rfl (by decide) (K.le (by decide)) ?_
  refine q_tv (show _ = (nI (W.n)) from ((congrFun (q_sIn _ _ _ (by omega)) _).trans ((congrFun (q_sIn _ _ _ (by omega)) _).trans V.n))) ?_
  refine q_iconst (v := nI 1) dX6_append_25 (by decide) ?_
  refine q_iaddN dX6_append_26 ?_
  refine pIX6_18 dX6_append_27 rfl (by decide) (K.le (by decide)) ?_
  refine q_vret dX6_append_30 rfl (Or.inl rfl) ?_
  exact ⟨rfl, rfl⟩
theorem g_X6_removeAt {Φ : q_Fx} {h : q_Hp} (K : q_Lk Φ h.R h.n) {W : q_W} (V : q_vw h W) {i : Nat} (hi : i < W.n) : q_Ct Φ false yX6_removeAt cX6_removeAt mX6_removeAt [.ref 3, .int (nI (i))] h (q_is none (((h.setI 3 2 (nI (W.n - 1))).setI 4 i (W.d (W.n - 1))).setI 5 i (W.v (W.n - 1)))) := by
  refine q_enter K.st rfl rfl (by decide) rfl (Nat.le_of_ble_eq_true rfl) (L := [_, _]) rfl ?_
  have hn := V.n10
  refine q_aload_n dX6_removeAt_0 rfl ?_
  refine q_dup dX6_removeAt_1 rfl ?_
  refine fIX6_18 dX6_removeAt_2 rfl (by decide) (K.le (by decide)) ?_
  refine q_tv (show _ = (nI (W.n)) from V.n) ?_
  refine q_iconst (v := nI 1) dX6_removeAt_5 (by decide) ?_
  refine q_isubN (by omega) dX6_removeAt_6 ?_
  refine pIX6_18 dX6_removeAt_7 rfl (by decide) (K.le (by decide)) ?_
  refine q_aload_n dX6_removeAt_10 rfl ?_
  refine fRX6_9 (o := some 4) dX6_removeAt_11 rfl (by decide) (K.le (by decide)) (K.lk rfl) ?_
  refine q_rfS ?_
  refine q_iload_n dX6_removeAt_14 rfl ?_
  refine q_aload_n dX6_removeAt_15 rfl ?_
  refine fRX6_9 (o := some 4) dX6_removeAt_16 rfl (by decide) (K.le (by decide)) (K.lk rfl) ?_
  refine q_rfS ?_
  refine q_aload_n dX6_removeAt_19 rfl ?_
  refine fIX6_18 dX6_removeAt_20 rfl (by decide) (K.le (by decide)) ?_
  refine q_tv (show _ = (nI ((W.n) - (1))) from ((congrFun (q_sI _ _ _ _) _).trans (va_us _ _ _))) ?_
  refine q_ialdN (len := 10) rfl dX6_removeAt_23 (by decide) (K.le (by decide)) rfl (by omega) (by decide) ?_
  refine q_tv (show _ = (W.d ((W.n) - (1))) from ((congrFun (q_sIn _ _ _ (by omega)) _).trans (congrFun V.d _))) ?_
  refine q_iastN (len := 10) rfl dX6_removeAt_24 (by decide) (K.le (by decide)) rfl (by omega) (by decide) ?_
  refine q_aload_n dX6_removeAt_25 rfl ?_
  refine fRX6_15 (o := some 5) dX6_removeAt_26 rfl (by decide) (K.le (by decide)) (K.lk rfl) ?_
  refine q_rfS ?_
  refine q_iload_n dX6_removeAt_29 rfl ?_
  refine q_aload_n dX6_removeAt_30 rfl ?_
  refine fRX6_15 (o := some 5) dX6_removeAt_31 rfl (by decide) (K.le (by decide)) (K.lk rfl) ?_
  refine q_rfS ?_
  refine q_aload_n dX6_removeAt_34 rfl ?_
  refine fIX6_18 dX6_removeAt_35 rfl (by decide) (K.le (by decide)) ?_
  refine q_tv (show _ = (nI ((W.n) - (1))) from ((congrFun (q_sIn _ _ _ (by omega)) _).trans ((congrFun (q_sI _ _ _ _) _).trans (va_us _ _ _)))) ?_
  refine q_ialdN (len := 10) rfl dX6_removeAt_38 (by decide) (K.le (by decide)) rfl (by omega) (by decide) ?_
  refine q_tv (show _ = (W.v ((W.n) - (1))) from ((congrFun (q_sIn _ _ _ (by omega)) _).trans ((congrFun (q_sIn _ _ _ (by omega)) _).trans (congrFun V.v _)))) ?_
  refine q_iastN (len := 10) rfl dX6_removeAt_39 (by decide) (K.le (by decide)) rfl (by omega) (by decide) ?_
  refine q_vret dX6_removeAt_40 rfl (Or.inl rfl) ?_
  exact ⟨rfl, rfl⟩
theorem g_X2_start {Φ : q_Fx} {h : q_Hp} (K : q_Lk Φ h.R h.n) {t : Nat} : q_Ct Φ false yX2_start cX2_start mX2_start [.ref 131, .int (nI (t))] h (q_is none (((h.setI 131 0 (nI 1)).setI 131 1 (nI t)).setI 131 2 (nI 0))) := by
  refine q_enter K.st rfl rfl (by decide) rfl (Nat.le_of_ble_eq_true rfl) (L := [_, _]) rfl ?_
  refine q_aload_n dX2_start_0 rfl ?_
  refine q_iconst (v := nI 1) dX2_start_1 (by decide) ?_
  refine pIX2_9 dX2_start_2 (by decide) rfl (by decide) (K.le (by decide)) ?_
  refine q_aload_n dX2_start_5 rfl ?_
  refine q_iload_n dX2_start_6 rfl ?_
  refine pIX2_15 dX2_start_7 rfl (by decide) (K.le (by decide)) ?_
  refine q_aload_n dX2_start_10 rfl ?_
  refine q_iconst (v := nI 0) dX2_start_11 (by decide) ?_
  refine pIX2_19 dX2_start_12 rfl (by decide) (K.le (by decide)) ?_
  refine q_vret dX2_start_15 rfl (Or.inl rfl) ?_
  exact ⟨rfl, rfl⟩
theorem g_X2_append {Φ : q_Fx} {h : q_Hp} (K : q_Lk Φ h.R h.n) {W : q_W} (V : q_vw h W) (hp : W.pc < 28) {x : Int32} : q_Ct Φ false yX2_append cX2_append mX2_append [.ref 131, .int x] h (q_is none ((h.setI 132 W.pc x).setI 131 2 (nI (W.pc + 1)))) := by
  refine q_enter K.st rfl rfl (by decide) rfl (Nat.le_of_ble_eq_true rfl) (L := [_, _]) rfl ?_
  refine q_aload_n dX2_append_0 rfl ?_
  refine fRX2_22 (o := some 132) dX2_append_1 rfl (by decide) (K.le (by decide)) (K.lk rfl) ?_
  refine q_rfS ?_
  refine q_aload_n dX2_append_4 rfl ?_
  refine fIX2_19 dX2_append_5 rfl (by decide) (K.le (by decide)) ?_
  refine q_tv (show _ = (nI (W.pc)) from V.pc) ?_
  refine q_iload_n dX2_append_8 rfl ?_
  refine q_iastN (len := 28) rfl dX2_append_9 (by decide) (K.le (by decide)) rfl (by omega) (by decide) ?_
  refine q_aload_n dX2_append_10 rfl ?_
  refine q_dup dX2_append_11 rfl ?_
  refine fIX2_19 dX2_append_12 rfl (by decide) (K.le (by decide)) ?_
  refine q_tv (show _ = (nI (W.pc)) from ((congrFun (q_sIn _ _ _ (by omega)) _).trans V.pc)) ?_
  refine q_iconst (v := nI 1) dX2_append_15 (by decide) ?_
  refine q_iaddN dX2_append_16 ?_
  refine pIX2_19 dX2_append_17 rfl (by decide) (K.le (by decide)) ?_
  refine q_vret dX2_append_20 rfl (Or.inl rfl) ?_
  exact ⟨rfl, rfl⟩
theorem g_X3_append {Φ : q_Fx} {h : q_Hp} (K : q_Lk Φ h.R h.n) {W : q_W} (V : q_vw h W) {s : Nat} (hs : s < 40) (hp : W.pn s < 8) {x y : Int32} : q_Ct Φ false yX3_append cX3_append mX3_append [.ref (11 + 3 * s), .int x, .int y] h (q_is none (((h.setI (12 + 3 * s) (W.pn s) x).setI (13 + 3 * s) (W.pn s) y).setI (11 + 3 * s) 2 (nI (W.pn s + 1)))) := by
  refine q_enter K.st rfl rfl (by decide) rfl (Nat.le_of_ble_eq_true rfl) (L := [_, _, _]) rfl ?_
  refine q_aload_n dX3_append_0 rfl ?_
  refine fRX3_21 (o := some (12 + 3 * s)) dX3_append_1 (q_ts hs) (by omega) (K.le (q_bs hs)) (K.lk (q_lks3 hs)) ?_
  refine q_rfS ?_
  refine q_aload_n dX3_append_4 rfl ?_
  refine fIX3_18 dX3_append_5 (q_ts hs) (by omega) (K.le (q_bs hs)) ?_
  refine q_tv (show _ = (nI (W.pn s)) from (V.pn hs)) ?_
  refine q_iload_n dX3_append_8 rfl ?_
  refine q_iastN (len := 8) (q_ts1 hs) dX3_append_9 (by omega) (K.le (q_bs1 hs)) (q_ls1 hs) (by omega) (by decide) ?_
  refine q_aload_n dX3_append_10 rfl ?_
  refine fRX3_25 (o := some (13 + 3 * s)) dX3_append_11 (q_ts hs) (by omega) (K.le (q_bs hs)) (K.lk (q_lks4 hs)) ?_
  refine q_rfS ?_
  refine q_aload_n dX3_append_14 rfl ?_
  refine fIX3_18 dX3_append_15 (q_ts hs) (by omega) (K.le (q_bs hs)) ?_
  refine q_tv (show _ = (nI (W.pn s)) from ((congrFun (q_sIn _ _ _ (by omega)) _).trans (V.pn hs))) ?_
  refine q_iload_n dX3_append_18 rfl ?_
  refine q_iastN (len := 8) (q_ts2 hs) dX3_append_19 (by omega) (K.le (q_bs2 hs)) (q_ls2 hs) (by omega) (by decide) ?_
  refine q_aload_n dX3_append_20 rfl ?_
  refine q_dup dX3_append_21 rfl ?_
  refine fIX3_18 dX3_append_22 (q_ts hs) (by omega) (K.le (q_bs hs)) ?_
  refine q_tv (show _ = (nI (W.pn s)) from ((congrFun (q_sIn _ _ _ (by omega)) _).trans ((congrFun (q_sIn _ _ _ (by omega)) _).trans (V.pn hs)))) ?_
  refine q_iconst (v := nI 1) dX3_append_25 (by decide) ?_
  refine q_iaddN dX3_append_26 ?_
  refine pIX3_18 dX3_append_27 (q_ts hs) (by omega) (K.le (q_bs hs)) ?_
  refine q_vret dX3_append_30 rfl (Or.inl rfl) ?_
  exact ⟨rfl, rfl⟩
theorem g_X4_add {Φ : q_Fx} {h : q_Hp} (K : q_Lk Φ h.R h.n) {W : q_W} (V : q_vw h W) (hc : W.c < 40) {d : Nat} (hd : d ≤ 199) : q_Ct Φ false yX4_add cX4_add mX4_add [.ref 9, .int (nI (d))] h (q_ex (fun v h' => v = some (.int W.nx) ∧ ∃ r, q_sd (W.addS d) W.c r ∧ q_vw h' ((W.addS d).sσ (q_mv W.σ W.c r)) ∧ q_st h h')) := by
  refine q_enter K.st rfl rfl (by decide) rfl (Nat.le_of_ble_eq_true rfl) (L := [_, _, none]) rfl ?_
  refine q_aload_n dX4_add_0 rfl ?_
  refine fRX4_11 (o := some 10) dX4_add_1 rfl (by decide) (K.le (by decide)) (K.lk rfl) ?_
  refine q_rfS ?_
  refine q_aload_n dX4_add_4 rfl ?_
  refine fIX4_17 dX4_add_5 rfl (by decide) (K.le (by decide)) ?_
  refine q_tv (show _ = (nI (W.c)) from V.c) ?_
  refine q_aaldN (len := 40) (o := some (11 + 3 * W.σ W.c)) (by decide) (by decide) dX4_add_8 (by decide) (K.le (by decide)) rfl (by omega) (by decide) (V.sg (by omega)) ?_
  refine q_rfS ?_
  refine q_astore_n (L' := [_, _, _]) dX4_add_9 rfl (by decide) rfl ?_
  refine q_aload_n dX4_add_10 rfl ?_
  refine q_aload_n dX4_add_11 rfl ?_
  refine fIX4_21 dX4_add_12 rfl (by decide) (K.le (by decide)) ?_
  refine q_tv (show _ = W.nx from V.nx) ?_
  refine pIX4_29 dX4_add_15 (q_ts (V.s40 (by omega))) (by omega) (K.le (q_bs (V.s40 (by omega)))) ?_
  refine q_aload_n dX4_add_18 rfl ?_
  refine q_iload_n dX4_add_19 rfl ?_
  refine pIX4_32 dX4_add_20 (q_ts (V.s40 (by omega))) (by omega) (K.le (q_bs (V.s40 (by omega)))) ?_
  refine q_aload_n dX4_add_23 rfl ?_
  refine q_iconst (v := nI 0) dX4_add_24 (by decide) ?_
  refine pIX4_39 dX4_add_25 (q_ts (V.s40 (by omega))) (by omega) (K.le (q_bs (V.s40 (by omega)))) ?_
  refine q_aload_n dX4_add_28 rfl ?_
  refine q_dup dX4_add_29 rfl ?_
  refine fIX4_17 dX4_add_30 rfl (by decide) (K.le (by decide)) ?_
  refine q_tv (show _ = (nI (W.c)) from ((congrFun (q_sIn _ _ _ (by omega)) _).trans ((congrFun (q_sIn _ _ _ (by omega)) _).trans ((congrFun (q_sIn _ _ _ (by omega)) _).trans V.c)))) ?_
  refine q_iconst (v := nI 1) dX4_add_33 (by decide) ?_
  refine q_iaddN dX4_add_34 ?_
  refine pIX4_17 dX4_add_35 rfl (by decide) (K.le (by decide)) ?_
  refine q_aload_n dX4_add_38 rfl ?_
  refine q_dup dX4_add_39 rfl ?_
  refine fIX4_21 dX4_add_40 rfl (by decide) (K.le (by decide)) ?_
  refine q_tv (show _ = W.nx from (((congrFun (q_sI _ _ _ _) _).trans (va_un _ _ (by omega))).trans ((congrFun (q_sIn _ _ _ (by omega)) _).trans ((congrFun (q_sIn _ _ _ (by omega)) _).trans ((congrFun (q_sIn _ _ _ (by omega)) _).trans V.nx))))) ?_
  refine q_iconst (v := nI 1) dX4_add_43 (by decide) ?_
  refine q_iadd dX4_add_44 ?_
  refine pIX4_21 dX4_add_45 rfl (by decide) (K.le (by decide)) ?_
  refine q_aload_n dX4_add_48 rfl ?_
  refine q_aload_n dX4_add_49 rfl ?_
  refine fIX4_17 dX4_add_50 rfl (by decide) (K.le (by decide)) ?_
  refine q_tv (show _ = (nI ((W.c) + (1))) from (((congrFun (q_sI _ _ _ _) _).trans (va_un _ _ (by omega))).trans ((congrFun (q_sI _ _ _ _) _).trans (va_us _ _ _)))) ?_
  refine q_iconst (v := nI 1) dX4_add_53 (by decide) ?_
  refine q_isubN (by omega) dX4_add_54 ?_
  refine q_vR (kc := 0) (ks := 0) (g_X4_settle (h := (q_adS h W d)) K (W := W.addS d) (V.addS hc hd) (pos := W.c) (by first | exact hpos | exact Nat.lt_succ_self _)) wX4_settle kX4_42 iX4_settle eX4_settle rfl rfl (by decide) (K.le (by decide)) (by decide) rfl rfl (Nat.le_of_ble_eq_true rfl) dX4_add_55 rfl rfl ?_
  rintro v h' ⟨rfl, r, hr, rfl, s1, s2, s3, s4⟩
  have V2 := (V.addS hc hd).ord (q_mv_lt (p := W.c) (r := r) (fun k hk => V.s40 hk) (by omega) (by have : r < W.c + 1 := hr; omega))
  refine q_aload_n dX4_add_58 rfl ?_
  refine fIX4_29 dX4_add_59 (q_ts (V.s40 (by omega))) (by omega) (K.le (q_bs (V.s40 (by omega)))) ?_
  refine q_tv (show _ = W.nx from (V2.id (V.s40 hc)).trans (va_us _ _ _)) ?_
  refine q_iret dX4_add_62 rfl (Or.inl rfl) ?_
  have hs := V.s40 hc
  exact ⟨_, rfl, rfl, r, ⟨hr, s1, s2, s3, s4⟩, V2, q_st.ord ((((((q_st.rf.set (by omega) (by omega)).set (by omega) (by omega)).set (by omega) (by omega)).set (by omega) (by omega)).set (by omega) (by omega)))⟩
theorem g_X4_moveAt {Φ : q_Fx} {h : q_Hp} (K : q_Lk Φ h.R h.n) {W : q_W} (V : q_vw h W) {pos d : Nat} (hpos : pos < W.c) (hd : d ≤ 199) : q_Ct Φ false yX4_moveAt cX4_moveAt mX4_moveAt [.ref 9, .int (nI (pos)), .int (nI (d))] h (q_ex (fun v h' => v = some (.int (nI (W.dy (W.σ pos)))) ∧ ∃ r, q_sd (W.movS (W.σ pos) d) pos r ∧ q_vw h' ((W.movS (W.σ pos) d).sσ (q_mv W.σ pos r)) ∧ q_st h h')) := by
  refine q_enter K.st rfl rfl (by decide) rfl (Nat.le_of_ble_eq_true rfl) (L := [_, _, _, none]) rfl ?_
  have hc := V.c40
  refine q_aload_n dX4_moveAt_0 rfl ?_
  refine fRX4_11 (o := some 10) dX4_moveAt_1 rfl (by decide) (K.le (by decide)) (K.lk rfl) ?_
  refine q_rfS ?_
  refine q_iload_n dX4_moveAt_4 rfl ?_
  refine q_aaldN (len := 40) (o := some (11 + 3 * W.σ pos)) (by decide) (by decide) dX4_moveAt_5 (by decide) (K.le (by decide)) rfl (by omega) (by decide) (V.sg (by omega)) ?_
  refine q_rfS ?_
  refine fIX4_32 dX4_moveAt_6 (q_ts (V.s40 (by omega))) (by omega) (K.le (q_bs (V.s40 (by omega)))) ?_
  refine q_tv (show _ = (nI (W.dy (W.σ pos))) from (V.dy (V.s40 (by omega)))) ?_
  refine q_istore_n (L' := [_, _, _, _]) dX4_moveAt_9 rfl (by decide) rfl ?_
  refine q_aload_n dX4_moveAt_10 rfl ?_
  refine fRX4_11 (o := some 10) dX4_moveAt_11 rfl (by decide) (K.le (by decide)) (K.lk rfl) ?_
  refine q_rfS ?_
  refine q_iload_n dX4_moveAt_14 rfl ?_
  refine q_aaldN (len := 40) (o := some (11 + 3 * W.σ pos)) (by decide) (by decide) dX4_moveAt_15 (by decide) (K.le (by decide)) rfl (by omega) (by decide) (V.sg (by omega)) ?_
  refine q_rfS ?_
  refine q_iload_n dX4_moveAt_16 rfl ?_
  refine pIX4_32 dX4_moveAt_17 (q_ts (V.s40 (by omega))) (by omega) (K.le (q_bs (V.s40 (by omega)))) ?_
  refine q_aload_n dX4_moveAt_20 rfl ?_
  refine q_iload_n dX4_moveAt_21 rfl ?_
  refine q_vR (kc := 0) (ks := 0) (g_X4_settle (h := (h.setI (11 + 3 * W.σ pos) 1 (nI d))) K (W := W.movS (W.σ pos) d) (V.movS (V.s40 (i := pos) (by omega)) hd) (pos := pos) (by first | exact hpos | exact Nat.lt_succ_self _)) wX4_settle kX4_42 iX4_settle eX4_settle rfl rfl (by decide) (K.le (by decide)) (by decide) rfl rfl (Nat.le_of_ble_eq_true rfl) dX4_moveAt_22 rfl rfl ?_
  rintro v h' ⟨rfl, r, hr, rfl, s1, s2, s3, s4⟩
  refine q_iload_n dX4_moveAt_25 rfl ?_
  refine q_iret dX4_moveAt_26 rfl (Or.inl rfl) ?_
  have hs := V.s40 (i := pos) (by omega)
  have hr2 : r < W.c := hr
  exact ⟨_, rfl, rfl, r, ⟨hr, s1, s2, s3, s4⟩, (V.movS (V.s40 (i := pos) (by omega)) hd).ord (q_mv_lt (fun k hk => V.s40 hk) (by omega) (by omega)), q_st.ord (q_st.rf.set (by omega) (by omega))⟩
theorem g_X4_removeAt {Φ : q_Fx} {h : q_Hp} (K : q_Lk Φ h.R h.n) {W : q_W} (V : q_vw h W) {pos : Nat} (hpos : pos < W.c) : q_Ct Φ false yX4_removeAt cX4_removeAt mX4_removeAt [.ref 9, .int (nI (pos))] h (q_ex (fun v h' => v = some (.int (nI (W.dy (W.σ pos)))) ∧ q_vw h' ((W.sσ (q_mv W.σ pos (W.c - 1))).sc (W.c - 1)) ∧ q_st h h')) := by
  refine q_enter K.st rfl rfl (by decide) rfl (Nat.le_of_ble_eq_true rfl) (L := [_, _, none, none]) rfl ?_
  have hc := V.c40
  have K0 := K
  refine q_aload_n dX4_removeAt_0 rfl ?_
  refine fRX4_11 (o := some 10) dX4_removeAt_1 rfl (by decide) (K.le (by decide)) (K.lk rfl) ?_
  refine q_rfS ?_
  refine q_iload_n dX4_removeAt_4 rfl ?_
  refine q_aaldN (len := 40) (o := some (11 + 3 * W.σ pos)) (by decide) (by decide) dX4_removeAt_5 (by decide) (K.le (by decide)) rfl (by omega) (by decide) (V.sg (by omega)) ?_
  refine q_rfS ?_
  refine q_astore_n (L' := [_, _, _, _]) dX4_removeAt_6 rfl (by decide) rfl ?_
  refine q_iload_n dX4_removeAt_7 rfl ?_
  refine q_istore_n (L' := [_, _, _, _]) dX4_removeAt_8 rfl (by decide) rfl ?_
  refine q_loop (ι := Nat) (μ := fun i => W.c - i) (P := fun i => pos ≤ i ∧ i < W.c) (Lf := fun i => [some (.ref 9), some (.int (nI (pos))), some (.ref (11 + 3 * W.σ pos)), some (.int (nI (i)))]) (hf := fun i => (h.rowR 10 (q_or h (q_m3 W.σ pos pos i)))) (fun i hi9 ih9 => ?_) pos (⟨by omega, by omega⟩) (q_sub_s rfl (q_sub_i rfl (q_sub_s rfl (q_sub_i rfl q_sub_0)))) (by rw [q_m3_0]; exact (q_or_id V).symm)
  skip
  obtain ⟨hi, hic⟩ := hi9
  have K : q_Lk Φ (h.rowR 10 (q_or h (q_m3 W.σ pos pos i))).R (h.rowR 10 (q_or h (q_m3 W.σ pos pos i))).n := K0.ord
  refine q_iload_n dX4_removeAt_9 rfl ?_
  refine q_aload_n dX4_removeAt_10 rfl ?_
  refine fIX4_17 dX4_removeAt_11 rfl (by decide) (K.le (by decide)) ?_
  refine q_tv (show _ = (nI (W.c)) from V.c) ?_
  refine q_iconst (v := nI 1) dX4_removeAt_14 (by decide) ?_
  refine q_isubN (by omega) dX4_removeAt_15 ?_
  refine q_icmp_geN (by omega) (by omega) (tgt := 39) dX4_removeAt_16 rfl (fun c1 => ?_) (fun c2 => ?_)
  · refine q_aload_n dX4_removeAt_39 rfl ?_
    refine q_dup dX4_removeAt_40 rfl ?_
    refine fIX4_17 dX4_removeAt_41 rfl (by decide) (K.le (by decide)) ?_
    refine q_tv (show _ = (nI (W.c)) from V.c) ?_
    refine q_iconst (v := nI 1) dX4_removeAt_44 (by decide) ?_
    refine q_isubN (by omega) dX4_removeAt_45 ?_
    refine pIX4_17 dX4_removeAt_46 rfl (by decide) (K.le (by decide)) ?_
    refine q_aload_n dX4_removeAt_49 rfl ?_
    refine fRX4_11 (o := some 10) dX4_removeAt_50 rfl (by decide) (K.le (by decide)) (K.lk rfl) ?_
    refine q_rfS ?_
    refine q_aload_n dX4_removeAt_53 rfl ?_
    refine fIX4_17 dX4_removeAt_54 rfl (by decide) (K.le (by decide)) ?_
    refine q_tv (show _ = (nI ((W.c) - (1))) from ((congrFun (q_sI _ _ _ _) _).trans (va_us _ _ _))) ?_
    refine q_aload_n dX4_removeAt_57 rfl ?_
    refine q_aastN (len := 40) (t0 := 2) (r := (RX3, TX3, 5)) (by decide) (by decide) rfl (q_ts (V.s40 (by omega))) rfl dX4_removeAt_58 (by decide) (K.le (by decide)) (by omega) (K.le (q_bs (V.s40 (by omega)))) rfl (by omega) (by decide) ?_
    refine q_aload_n dX4_removeAt_59 rfl ?_
    refine fIX4_32 dX4_removeAt_60 (q_ts (V.s40 (by omega))) (by omega) (K.le (q_bs (V.s40 (by omega)))) ?_
    refine q_tv (show _ = (nI (W.dy (W.σ pos))) from (show ((h.setI 9 1 (nI (W.c - 1))).I (11 + 3 * W.σ pos) 1 = nI (W.dy (W.σ pos))) from (congrFun (q_sIn h _ _ (by omega)) _).trans (V.dy (V.s40 (i := pos) (by omega))))) ?_
    refine q_iret dX4_removeAt_63 rfl (Or.inl rfl) ?_
    have e : (((h.rowR 10 (q_or h (q_m3 W.σ pos pos i))).setI 9 1 (nI (W.c - 1))).setR 10 (W.c - 1) (some (11 + 3 * W.σ pos))) = (h.rowR 10 (q_or h (q_mv W.σ pos (W.c - 1)))).setI 9 1 (nI (W.c - 1)) := by show (((h.rowR 10 (q_or h (q_m3 W.σ pos pos i))).setR 10 (W.c - 1) (some (11 + 3 * W.σ pos))).setI 9 1 (nI (W.c - 1))) = _; rw [q_rsetR, q_or_up _ _ _ _ (by omega), show i = W.c - 1 by omega, q_m3_mv _ (Or.inr ⟨rfl, by omega⟩)]
    rw [e]
    exact ⟨_, rfl, rfl, (V.ord (q_mv_lt (fun k hk => V.s40 hk) (by omega) (by omega))).sc (by omega), q_st.set (q_st.rf.ord) (by omega) (by omega)⟩
  · refine q_aload_n dX4_removeAt_19 rfl ?_
    refine fRX4_11 (o := some 10) dX4_removeAt_20 rfl (by decide) (K.le (by decide)) (K.lk rfl) ?_
    refine q_rfS ?_
    refine q_iload_n dX4_removeAt_23 rfl ?_
    refine q_aload_n dX4_removeAt_24 rfl ?_
    refine fRX4_11 (o := some 10) dX4_removeAt_25 rfl (by decide) (K.le (by decide)) (K.lk rfl) ?_
    refine q_rfS ?_
    refine q_iload_n dX4_removeAt_28 rfl ?_
    refine q_iconst (v := nI 1) dX4_removeAt_29 (by decide) ?_
    refine q_iaddN dX4_removeAt_30 ?_
    refine q_aaldN (len := 40) (o := some (11 + 3 * W.σ (i + 1))) (by decide) (by decide) dX4_removeAt_31 (by decide) (K.le (by decide)) rfl (by omega) (by decide) ((congrFun (q_rR _ _ _) _).trans ((q_or_in _ _ (by omega)).trans (congrArg (fun z => some (11 + 3 * z)) (show q_m3 W.σ pos pos i (i + 1) = W.σ (i + 1) by unfold q_m3; rw [if_neg (by omega), if_neg (by omega)])))) ?_
    refine q_rfS ?_
    refine q_aastN (len := 40) (t0 := 2) (r := (RX3, TX3, 5)) (by decide) (by decide) rfl (q_ts (V.s40 (by omega))) rfl dX4_removeAt_32 (by decide) (K.le (by decide)) (by omega) (K.le (q_bs (V.s40 (by omega)))) rfl (by omega) (by decide) ?_
    refine q_iincN (n := 1) (L' := [_, _, _, _]) (by decide) dX4_removeAt_33 rfl rfl (by decide) rfl ?_
    refine q_goto (tgt := 9) dX4_removeAt_36 rfl ?_
    exact q_to (ih9 (i + 1) (⟨by omega, by omega⟩) (by omega)) (q_sub_s rfl (q_sub_i rfl (q_sub_s rfl (q_sub_i rfl q_sub_0)))) (by rw [q_rsetR, q_or_up _ _ _ _ (by omega), q_m3_up _ hi])
