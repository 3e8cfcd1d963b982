/-! THE LAW'S LOOP: rows for null, what holds at its head -/
section Q65
variable {Φ : q_Fx} {xb : Bool} {cc : ByteArray} {own : String} {M : q_M} {Z : Program → Env → State → MethodId → Array Value → List Frame → State → Prop} {pc : Nat} {L L' : List (Option Value)} {S : List Value} {h : q_Hp} {kc ks : Nat}
theorem q_null (d : decode cc pc = .ok (.aconst_null, 1)) (K : q_G Φ xb cc own M Z (pc + 1) L (.null :: S) h kc ks) : q_G Φ xb cc own M Z pc L S h kc ks := by
  intro p e s m args below meth c H locs cells slots ls ok rel hl hc hs
  exact lv_null ok.1 ok.2.1 d (K p e s m args below meth c H locs cells slots ls ok rel hl hc hs)
theorem q_aload_nN {k : Fin 4} (d : decode cc pc = .ok (.aload_n k, 1)) (hL : L[k.val]? = some (some .null)) (K : q_G Φ xb cc own M Z (pc + 1) L (.null :: S) h kc ks) : q_G Φ xb cc own M Z pc L S h kc ks := by
  intro p e s m args below meth c H locs cells slots ls ok rel hl hc hs
  exact lv_aload_nN ok.1 ok.2.1 d rfl (q_at hl hL) (K p e s m args below meth c H locs cells slots ls ok rel hl hc hs)
theorem q_astore_nN {k : Fin 4} (d : decode cc pc = .ok (.astore_n k, 1)) (hL : L.set k.val (some .null) = L') (hn : k.val < M.nL) (hw : q_nw1 L k.val = true) (K : q_G Φ xb cc own M Z (pc + 1) L' S h kc ks) : q_G Φ xb cc own M Z pc L (.null :: S) h kc ks := by
  intro p e s m args below meth c H locs cells slots ls ok rel hl hc hs
  exact lv_astore_nN ok.1 ok.2.1 d rfl hl hn rfl (fun ls2 hl2 => (K p e s m args below meth c H locs cells slots ls2 ok rel (q_has1 (v := .null) hl2 hw hL) hc hs))
theorem q_ifnonnull {x : Nat} {off : Int} {tgt : Nat} (d : decode cc pc = .ok (.ifnonnull off, 3)) (ht : (pc : Int) + off = (tgt : Int)) (K : q_G Φ xb cc own M Z tgt L S h kc ks) : q_G Φ xb cc own M Z pc L (.ref x :: S) h kc ks := by
  intro p e s m args below meth c H locs cells slots ls ok rel hl hc hs
  exact lv_ifnonnull ok.1 ok.2.1 d ht (K p e s m args below meth c H locs cells slots ls ok rel hl hc hs)
theorem q_ifnonnullN {off : Int} (d : decode cc pc = .ok (.ifnonnull off, 3)) (K : q_G Φ xb cc own M Z (pc + 3) L S h kc ks) : q_G Φ xb cc own M Z pc L (.null :: S) h kc ks := by
  intro p e s m args below meth c H locs cells slots ls ok rel hl hc hs
  exact lv_ifnonnullN ok.1 ok.2.1 d (K p e s m args below meth c H locs cells slots ls ok rel hl hc hs)
end Q65
/-- the row that was saved, or none -/
def q_sv (h : q_Hp) (a c : Nat) (O : q_O) (sv : Value) : Prop := (sv = .null ∧ O.hs = 0) ∨ ∃ z, sv = .ref z ∧ q_n9 h z ∧ z ≠ a ∧ O.hs = 1 ∧ q_row9 c (h.I z) O.SW
theorem q_sv.lg {h h1 : q_Hp} {a c c' : Nat} {O O1 : q_O} {sv : Value} (X : q_sv h a c O sv) (F : q_lg h h1 a) (e1 : O1.hs = O.hs) (e2 : O1.SW = O.SW) (hc : c ≤ c') : q_sv h1 a c' O1 sv := by
  rcases X with ⟨x1, x2⟩ | ⟨z, x1, x2, x3, x4, x5⟩
  · exact Or.inl ⟨x1, e1.trans x2⟩
  · exact Or.inr ⟨z, x1, F.n9 x2, x3, e1.trans x4, by rw [F.1 z x2.1 x2.2.1 x2.2.2 x3, e2]; exact x5.le hc⟩
/-- what holds at the head -/
def q_LI (h : q_Hp) (a st c : Nat) (sv : Value) : Prop := ∃ W O m ρ, q_clX h W O ∧ q_smc c W m ∧ q_n9 h a ∧ q_nr (h.I a) m ρ ∧ q_bd m ∧ h.I a 899 = nI 0 ∧ q_inc m ∧ q_hx h a st c O ∧ q_sv h a c O sv
theorem q_hp.lf {h h1 : q_Hp} {a st c : Nat} {O : q_O} {pl : Nat → Nat} (X : q_hp h a st c O pl) (hs : st ∈ h.J ∧ 2000 ≤ st ∧ st % 4 = 2) (c6 : O.cn ≤ 6) (F : q_lf h h1 a) (ha : a % 4 = 0) : q_hp h1 a st c O pl := by
  obtain ⟨s1, s2, s3⟩ := hs
  obtain ⟨p1, p2, p3, p4⟩ := X
  have ec : ∀ j, j < 7 → h1.I (pl j) = h.I (pl j) := fun j hj => (F.1 _ (p1 j hj).2.1 (p1 j hj).2.2.1 (p1 j hj).2.2.2.2).1
  refine ⟨fun j hj => ?_, p2, ?_, fun j hj => ?_⟩
  · obtain ⟨q1, q2, q3⟩ := p1 j hj
    exact ⟨by rw [(F.1 st s1 s2 (by omega)).2]; exact q1, F.in q2, q3⟩
  · rw [ec 6 (by decide)]; exact p3
  · rw [ec j (by omega)]; exact p4 j hj
def q_sb5 (h : q_Hp) (st : Nat) (pl : Nat → Nat) : q_Hp := (((((h.setR st (0) (some (pl 1))).setR st (1) (some (pl 2))).setR st (2) (some (pl 3))).setR st (3) (some (pl 4))).setR st (4) (some (pl 5)))
theorem q_pop6 {h : q_Hp} {a st c : Nat} {O : q_O} {pl : Nat → Nat} {W : q_W} (hs : st ∈ h.J ∧ 2000 ≤ st ∧ st % 4 = 2) (n6 : O.nx < 6) (c6 : O.cn ≤ 6) (c0 : O.cn ≠ 0) (X : q_hp h a st c O pl) (C : q_clX h W O) (ha : 2000 ≤ a) (ha4 : a % 4 = 0) :
    q_clX ((q_sb5 h st pl).setI (pl 6) (0) (nI ((O.cn) - (1)))) W O ∧ q_hx ((q_sb5 h st pl).setI (pl 6) (0) (nI ((O.cn) - (1)))) a st c O.back ∧ q_lg h ((q_sb5 h st pl).setI (pl 6) (0) (nI ((O.cn) - (1)))) a ∧ ((q_sb5 h st pl).setI (pl 6) (0) (nI ((O.cn) - (1)))).I a = h.I a := by
  obtain ⟨p1, p2, p3, p4⟩ := id X
  obtain ⟨b1, b2, b3, b4, b5⟩ := p1 6 (by decide)
  have hst := hs.2.1
  have eI : ∀ p, p ≠ pl 6 → ((q_sb5 h st pl).setI (pl 6) (0) (nI ((O.cn) - (1)))).I p = h.I p := fun p hp => q_sIn _ _ _ hp
  have eR : ∀ p, p ≠ st → ((q_sb5 h st pl).setI (pl 6) (0) (nI ((O.cn) - (1)))).R p = h.R p := fun p hp => (q_setR_n _ hp).trans ((q_setR_n _ hp).trans ((q_setR_n _ hp).trans ((q_setR_n _ hp).trans (q_setR_n _ hp))))
  refine ⟨q_df.cl ⟨fun p hp => eI p (by omega), fun p hp => eR p (by omega)⟩ C, ?_, ⟨fun p h9 h8 h7 h6 => eI p (fun e => by rw [e] at h7; omega), ⟨[], (List.append_nil _).symm⟩, fun p h9 h8 => eR p (by omega), rfl⟩, eI a (Ne.symm b5)⟩
  refine q_hx_pop hs n6 c6 c0 X (fun p hp _ => eI p hp) ((congrFun (q_sI _ _ _ _) _).trans (va_us _ _ _)) (fun j hj => ?_) rfl
  show (q_sb5 h st pl).R st j = _
  have h5 := (p1 5 (by decide)).1
  have h6 := (p1 6 (by decide)).1
  unfold q_sb5
  rcases (by omega : j = 0 ∨ j = 1 ∨ j = 2 ∨ j = 3 ∨ j = 4 ∨ j = 5 ∨ j = 6) with rfl | rfl | rfl | rfl | rfl | rfl | rfl
  · exact (q_sRn (by decide)).trans ((q_sRn (by decide)).trans ((q_sRn (by decide)).trans ((q_sRn (by decide)).trans q_sRs)))
  · exact (q_sRn (by decide)).trans ((q_sRn (by decide)).trans ((q_sRn (by decide)).trans q_sRs))
  · exact (q_sRn (by decide)).trans ((q_sRn (by decide)).trans q_sRs)
  · exact (q_sRn (by decide)).trans q_sRs
  · exact q_sRs
  · exact (q_sRn (by decide)).trans ((q_sRn (by decide)).trans ((q_sRn (by decide)).trans ((q_sRn (by decide)).trans ((q_sRn (by decide)).trans h5))))
  · exact (q_sRn (by decide)).trans ((q_sRn (by decide)).trans ((q_sRn (by decide)).trans ((q_sRn (by decide)).trans ((q_sRn (by decide)).trans h6))))
theorem q_rest6 {h : q_Hp} {a st c : Nat} {O : q_O} {pl : Nat → Nat} {W : q_W} (hs : st ∈ h.J ∧ 2000 ≤ st ∧ st % 4 = 2) (n6 : O.nx < 6) (X : q_hp h a st c O pl) (C : q_clX h W O) :
    q_clX (h.setI (pl 6) (0) (nI 0)) W O ∧ q_hx (h.setI (pl 6) (0) (nI 0)) a st c O.rest ∧ q_lg h (h.setI (pl 6) (0) (nI 0)) a ∧ (h.setI (pl 6) (0) (nI 0)).I a = h.I a := by
  obtain ⟨p1, p2, p3, p4⟩ := id X
  obtain ⟨b1, b2, b3, b4, b5⟩ := p1 6 (by decide)
  exact ⟨C.setD b3, q_hx_rest hs n6 X ((congrFun (q_sI _ _ _ _) _).trans (va_us _ _ _)) rfl rfl, ⟨fun p h9 h8 h7 h6 => q_sIn _ _ _ (fun e => by rw [e] at h7; omega), ⟨[], (List.append_nil _).symm⟩, fun p h9 h8 => rfl, rfl⟩, q_sIn _ _ _ (Ne.symm b5)⟩
