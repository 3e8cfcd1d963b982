/-! THE TIME AFTER THE MAKING: small rows over places and naturals -/
section Q11
variable {Φ : q_Fx} {xb : Bool} {cc : ByteArray} {own : String} {M : q_M} {Z : Program → Env → State → MethodId → Array Value → List Frame → State → Prop} {pc : Nat} {L L' : List (Option Value)} {S : List Value} {h : q_Hp} {kc ks : Nat} {Q : Except String (Option Value) → q_Hp → Prop}
def q_sub : List (Option Value) → List (Option Value) → Prop
  | [], _ => True
  | none :: t, _ :: u => q_sub t u
  | some v :: t, some x :: u => x = v ∧ q_sub t u
  | _, _ => False
theorem q_sub_0 {u : List (Option Value)} : q_sub [] u := by cases u <;> exact True.intro
theorem q_sub_n {t u : List (Option Value)} {x : Option Value} (hs : q_sub t u) : q_sub (none :: t) (x :: u) := by cases x <;> exact hs
theorem q_sub_s {t u : List (Option Value)} {x v : Value} (e : x = v) (hs : q_sub t u) : q_sub (some v :: t) (some x :: u) := ⟨e, hs⟩
theorem q_sub_i {t u : List (Option Value)} {x v : Int32} (e : x = v) (hs : q_sub t u) : q_sub (some (.int v) :: t) (some (.int x) :: u) := ⟨by rw [e], hs⟩
theorem q_sub_at : ∀ (t u : List (Option Value)), q_sub t u → ∀ (k : Nat) (v : Value), t[k]? = some (some v) → u[k]? = some (some v)
  | [], _, _, k, v, h1 => by simp at h1
  | none :: t, [], hs, k, v, h1 => by cases hs
  | some x :: t, [], hs, k, v, h1 => by cases hs
  | some x :: t, none :: u, hs, k, v, h1 => by cases hs
  | none :: t, x :: u, hs, 0, v, h1 => by simp at h1
  | none :: t, none :: u, hs, k + 1, v, h1 => by
    have := q_sub_at t u hs k v (by simpa using h1)
    simpa using this
  | none :: t, some x :: u, hs, k + 1, v, h1 => by
    have := q_sub_at t u hs k v (by simpa using h1)
    simpa using this
  | some y :: t, some x :: u, hs, 0, v, h1 => by
    obtain ⟨e, -⟩ := hs
    simp at h1; subst h1; subst e; rfl
  | some y :: t, some x :: u, hs, k + 1, v, h1 => by
    obtain ⟨-, hs⟩ := hs
    have := q_sub_at t u hs k v (by simpa using h1)
    simpa using this
theorem q_to {h' : q_Hp} (g : q_G Φ xb cc own M Z pc L S h kc ks) (hL : q_sub L L') (hh : h' = h) : q_G Φ xb cc own M Z pc L' S h' kc ks := by
  subst hh
  intro p e s m args below meth c H locs cells slots ls ok rel hl hc hs
  refine g p e s m args below meth c H locs cells slots ls ok rel (q_has_sub hl fun q hq => ?_) hc hs
  obtain ⟨k, v, h1, rfl⟩ := q_mk_of Φ L 0 q hq
  exact q_mk_get Φ L' 0 k v (q_sub_at _ _ hL k v h1)
theorem q_rfS {t : Nat} (g : q_G Φ xb cc own M Z pc L (.ref t :: S) h kc ks) : q_G Φ xb cc own M Z pc L (q_rf (some t) :: S) h kc ks := g
theorem q_hh {h' : q_Hp} (hh : h = h') (g : q_G Φ xb cc own M Z pc L S h' kc ks) : q_G Φ xb cc own M Z pc L S h kc ks := by subst hh; exact g
theorem q_LL (hL : L = L') (g : q_G Φ xb cc own M Z pc L' S h kc ks) : q_G Φ xb cc own M Z pc L S h kc ks := by subst hL; exact g
theorem q_tv {x x' : Int32} (e : x = x') (g : q_G Φ xb cc own M Z pc L (.int x' :: S) h kc ks) : q_G Φ xb cc own M Z pc L (.int x :: S) h kc ks := by subst e; exact g
theorem q_SS {S' : List Value} (e : S = S') (g : q_G Φ xb cc own M Z pc L S' h kc ks) : q_G Φ xb cc own M Z pc L S h kc ks := by subst e; exact g
def q_bl (b : Bool) : Int32 := if b then nI 1 else nI 0
theorem q_spl {c : Prop} [Decidable c] (K1 : c → q_G Φ xb cc own M Z pc L (.int (nI 1) :: S) h kc ks) (K2 : ¬ c → q_G Φ xb cc own M Z pc L (.int (nI 0) :: S) h kc ks) : q_G Φ xb cc own M Z pc L (.int (q_bl (decide c)) :: S) h kc ks := by
  by_cases e : c
  · rw [show decide c = true by simp [e]]; exact K1 e
  · rw [show decide c = false by simp [e]]; exact K2 e
theorem q_loop {ι : Type} (μ : ι → Nat) (P : ι → Prop) (Lf : ι → List (Option Value)) (hf : ι → q_Hp) (step : ∀ i, P i → (∀ j, P j → μ j < μ i → q_G Φ xb cc own M Z pc (Lf j) S (hf j) kc ks) → q_G Φ xb cc own M Z pc (Lf i) S (hf i) kc ks) (i0 : ι) (h0 : P i0) (hL : q_sub (Lf i0) L) (hh : h = hf i0) : q_G Φ xb cc own M Z pc L S h kc ks := by
  refine q_to ?_ hL hh
  have key : ∀ (k : Nat) (i : ι), μ i = k → P i → q_G Φ xb cc own M Z pc (Lf i) S (hf i) kc ks := by
    intro k
    induction k using Nat.strongRecOn with
    | _ k ih =>
      intro i hk hi
      exact step i hi fun j hj hl => ih (μ j) (by omega) j rfl hj
  exact key _ i0 rfl h0
theorem q_iincN {i : Nat} {a n : Nat} {m : Int} (hm : Int32.ofInt m = nI n) (d : decode cc pc = .ok (.iinc i m, 3)) (hL : L[i]? = some (some (.int (nI a)))) (hL2 : L.set i (some (.int (nI (a + n)))) = L') (hn : i < M.nL) (hw : q_nw1 L i = true) (K : q_G Φ xb cc own M Z (pc + 3) L' S h kc ks) : q_G Φ xb cc own M Z pc L S h kc ks := by
  refine q_iinc d hL (v := nI (a + n)) ?_ hL2 hn hw K
  rw [hm, nI_add]
theorem q_iincM {i : Nat} {a : Nat} {m : Int} (h1 : 1 ≤ a) (hm : Int32.ofInt m = -1) (d : decode cc pc = .ok (.iinc i m, 3)) (hL : L[i]? = some (some (.int (nI a)))) (hL2 : L.set i (some (.int (nI (a - 1)))) = L') (hn : i < M.nL) (hw : q_nw1 L i = true) (K : q_G Φ xb cc own M Z (pc + 3) L' S h kc ks) : q_G Φ xb cc own M Z pc L S h kc ks := by
  refine q_iinc d hL (v := nI (a - 1)) ?_ hL2 hn hw K
  rw [hm]
  obtain ⟨b, rfl⟩ : ∃ b, a = b + 1 := ⟨a - 1, by omega⟩
  rw [Nat.add_sub_cancel]; exact pk_m1 b
theorem q_iaddN {a b : Nat} (d : decode cc pc = .ok (.iadd, 1)) (K : q_G Φ xb cc own M Z (pc + 1) L (.int (nI (a + b)) :: S) h kc ks) : q_G Φ xb cc own M Z pc L (.int (nI b) :: .int (nI a) :: S) h kc ks := q_iadd d (by rw [nI_add]; exact K)
theorem q_imulN {a b : Nat} (d : decode cc pc = .ok (.imul, 1)) (K : q_G Φ xb cc own M Z (pc + 1) L (.int (nI (a * b)) :: S) h kc ks) : q_G Φ xb cc own M Z pc L (.int (nI b) :: .int (nI a) :: S) h kc ks := q_imul d (by rw [pk_mul]; exact K)
theorem q_isubN {a b : Nat} (hb : b ≤ a) (d : decode cc pc = .ok (.isub, 1)) (K : q_G Φ xb cc own M Z (pc + 1) L (.int (nI (a - b)) :: S) h kc ks) : q_G Φ xb cc own M Z pc L (.int (nI b) :: .int (nI a) :: S) h kc ks := q_isub d (by rw [pk_sub hb]; exact K)
theorem q_idivN {a b : Nat} (ha : a < 2 ^ 31) (h0 : 0 < b) (hb : b < 2 ^ 31) (d : decode cc pc = .ok (.idiv, 1)) (K : q_G Φ xb cc own M Z (pc + 1) L (.int (nI (a / b)) :: S) h kc ks) : q_G Φ xb cc own M Z pc L (.int (nI b) :: .int (nI a) :: S) h kc ks := q_idiv d (nI_ne0 h0 hb) (by rw [pk_div ha h0 hb]; exact K)
theorem q_iremN {a b : Nat} (ha : a < 2 ^ 31) (h0 : 0 < b) (hb : b < 2 ^ 31) (d : decode cc pc = .ok (.irem, 1)) (K : q_G Φ xb cc own M Z (pc + 1) L (.int (nI (a % b)) :: S) h kc ks) : q_G Φ xb cc own M Z pc L (.int (nI b) :: .int (nI a) :: S) h kc ks := q_irem d (nI_ne0 h0 hb) (by rw [pk_rem ha h0 hb]; exact K)
theorem q_ialdN {a k : Nat} (ha : q_tag a = 12) (d : decode cc pc = .ok (.iaload, 1)) (h1 : 1 ≤ a) (h2 : a ≤ h.n) {len : Nat} (hln : q_len a = len) (hi : k < len) (hl : len < 2 ^ 31) (K : q_G Φ xb cc own M Z (pc + 1) L (.int (h.I a k) :: S) h kc ks) : q_G Φ xb cc own M Z pc L (.int (nI k) :: .ref a :: S) h kc ks := q_iald ha d h1 h2 (hln ▸ vp_in_nI hi hl) (by rw [nI_clamp (by omega)]; exact K)
theorem q_caldN {a k : Nat} (ha : q_tag a = 11) (d : decode cc pc = .ok (.caload, 1)) (h1 : 1 ≤ a) (h2 : a ≤ h.n) {len : Nat} (hln : q_len a = len) (hi : k < len) (hl : len < 2 ^ 31) (K : q_G Φ xb cc own M Z (pc + 1) L (.int (h.I a k) :: S) h kc ks) : q_G Φ xb cc own M Z pc L (.int (nI k) :: .ref a :: S) h kc ks := q_cald ha d h1 h2 (hln ▸ vp_in_nI hi hl) (by rw [nI_clamp (by omega)]; exact K)
theorem q_aaldN {a k : Nat} {o : Option Nat} (h3 : ¬ q_tag a < 13) (h4 : q_tag a < 16) (d : decode cc pc = .ok (.aaload, 1)) (h1 : 1 ≤ a) (h2 : a ≤ h.n) {len : Nat} (hln : q_len a = len) (hi : k < len) (hl : len < 2 ^ 31) (hv : h.R a k = o) (K : q_G Φ xb cc own M Z (pc + 1) L (q_rf o :: S) h kc ks) : q_G Φ xb cc own M Z pc L (.int (nI k) :: .ref a :: S) h kc ks := q_aald h3 h4 d h1 h2 (hln ▸ vp_in_nI hi hl) (by rw [nI_clamp (by omega)]; exact hv) K
theorem q_iastN {a k : Nat} {v : Int32} (ha : q_tag a = 12) (d : decode cc pc = .ok (.iastore, 1)) (h1 : 1 ≤ a) (h2 : a ≤ h.n) {len : Nat} (hln : q_len a = len) (hi : k < len) (hl : len < 2 ^ 31) (K : q_G Φ xb cc own M Z (pc + 1) L S (h.setI a k v) kc ks) : q_G Φ xb cc own M Z pc L (.int v :: .int (nI k) :: .ref a :: S) h kc ks := q_iast ha d h1 h2 (hln ▸ vp_in_nI hi hl) (by rw [nI_clamp (by omega)]; exact K)
theorem q_castN {a k : Nat} {v : Int32} (ha : q_tag a = 11) (d : decode cc pc = .ok (.castore, 1)) (h1 : 1 ≤ a) (h2 : a ≤ h.n) {len : Nat} (hln : q_len a = len) (hi : k < len) (hl : len < 2 ^ 31) (hv : vp_nar .char v = v) (K : q_G Φ xb cc own M Z (pc + 1) L S (h.setI a k v) kc ks) : q_G Φ xb cc own M Z pc L (.int v :: .int (nI k) :: .ref a :: S) h kc ks := q_cast ha d h1 h2 (hln ▸ vp_in_nI hi hl) hv (by rw [nI_clamp (by omega)]; exact K)
theorem q_aastN {a v ci t0 k : Nat} {r : vw_C} (h3 : ¬ q_tag a < 13) (h4 : q_tag a < 16) (ht : (q_tys Φ)[t0]? = some (Φ.cy (q_tag a), .object r.1)) (hv : q_tag v = ci) (hcl : q_cl[ci]? = some r) (d : decode cc pc = .ok (.aastore, 1)) (h1 : 1 ≤ a) (h2 : a ≤ h.n) (h5 : 1 ≤ v) (h6 : v ≤ h.n) {len : Nat} (hln : q_len a = len) (hi : k < len) (hl : len < 2 ^ 31) (K : q_G Φ xb cc own M Z (pc + 1) L S (h.setR a k (some v)) kc ks) : q_G Φ xb cc own M Z pc L (.ref v :: .int (nI k) :: .ref a :: S) h kc ks := q_aast h3 h4 ht hv hcl d h1 h2 h5 h6 (hln ▸ vp_in_nI hi hl) (by rw [nI_clamp (by omega)]; exact K)
theorem q_icmp_eqN {a b : Nat} {off : Int} {tgt : Nat} (ha : a < 2 ^ 31) (hb : b < 2 ^ 31) (d : decode cc pc = .ok (.if_icmp .eq off, 3)) (ht : (pc : Int) + off = (tgt : Int)) (K1 : a = b → q_G Φ xb cc own M Z tgt L S h kc ks) (K2 : ¬ (a = b) → q_G Φ xb cc own M Z (pc + 3) L S h kc ks) : q_G Φ xb cc own M Z pc L (.int (nI b) :: .int (nI a) :: S) h kc ks := q_icmp_eq d ht (fun c => K1 ((nI_eq ha hb).mp c)) (fun c => K2 fun e => c ((nI_eq ha hb).mpr e))
theorem q_icmp_neN {a b : Nat} {off : Int} {tgt : Nat} (ha : a < 2 ^ 31) (hb : b < 2 ^ 31) (d : decode cc pc = .ok (.if_icmp .ne off, 3)) (ht : (pc : Int) + off = (tgt : Int)) (K1 : ¬ (a = b) → q_G Φ xb cc own M Z tgt L S h kc ks) (K2 : a = b → q_G Φ xb cc own M Z (pc + 3) L S h kc ks) : q_G Φ xb cc own M Z pc L (.int (nI b) :: .int (nI a) :: S) h kc ks := q_icmp_ne d ht (fun c => K1 fun e => c ((nI_eq ha hb).mpr e)) (fun c => K2 ((nI_eq ha hb).mp c))
theorem q_icmp_ltN {a b : Nat} {off : Int} {tgt : Nat} (ha : a < 2 ^ 31) (hb : b < 2 ^ 31) (d : decode cc pc = .ok (.if_icmp .lt off, 3)) (ht : (pc : Int) + off = (tgt : Int)) (K1 : a < b → q_G Φ xb cc own M Z tgt L S h kc ks) (K2 : b ≤ a → q_G Φ xb cc own M Z (pc + 3) L S h kc ks) : q_G Φ xb cc own M Z pc L (.int (nI b) :: .int (nI a) :: S) h kc ks := q_icmp_lt d ht (fun c => K1 ((nI_ltI ha hb).mp c)) (fun c => K2 (Nat.not_lt.mp fun e => c ((nI_ltI ha hb).mpr e)))
theorem q_icmp_geN {a b : Nat} {off : Int} {tgt : Nat} (ha : a < 2 ^ 31) (hb : b < 2 ^ 31) (d : decode cc pc = .ok (.if_icmp .ge off, 3)) (ht : (pc : Int) + off = (tgt : Int)) (K1 : b ≤ a → q_G Φ xb cc own M Z tgt L S h kc ks) (K2 : a < b → q_G Φ xb cc own M Z (pc + 3) L S h kc ks) : q_G Φ xb cc own M Z pc L (.int (nI b) :: .int (nI a) :: S) h kc ks := q_icmp_ge d ht (fun c => K1 ((nI_leI hb ha).mp c)) (fun c => K2 (Nat.not_le.mp fun e => c ((nI_leI hb ha).mpr e)))
theorem q_icmp_gtN {a b : Nat} {off : Int} {tgt : Nat} (ha : a < 2 ^ 31) (hb : b < 2 ^ 31) (d : decode cc pc = .ok (.if_icmp .gt off, 3)) (ht : (pc : Int) + off = (tgt : Int)) (K1 : b < a → q_G Φ xb cc own M Z tgt L S h kc ks) (K2 : a ≤ b → q_G Φ xb cc own M Z (pc + 3) L S h kc ks) : q_G Φ xb cc own M Z pc L (.int (nI b) :: .int (nI a) :: S) h kc ks := q_icmp_gt d ht (fun c => K1 ((nI_ltI hb ha).mp c)) (fun c => K2 (Nat.not_lt.mp fun e => c ((nI_ltI hb ha).mpr e)))
theorem q_icmp_leN {a b : Nat} {off : Int} {tgt : Nat} (ha : a < 2 ^ 31) (hb : b < 2 ^ 31) (d : decode cc pc = .ok (.if_icmp .le off, 3)) (ht : (pc : Int) + off = (tgt : Int)) (K1 : a ≤ b → q_G Φ xb cc own M Z tgt L S h kc ks) (K2 : b < a → q_G Φ xb cc own M Z (pc + 3) L S h kc ks) : q_G Φ xb cc own M Z pc L (.int (nI b) :: .int (nI a) :: S) h kc ks := q_icmp_le d ht (fun c => K1 ((nI_leI ha hb).mp c)) (fun c => K2 (Nat.not_le.mp fun e => c ((nI_leI ha hb).mpr e)))
theorem q_if_eqN {a : Nat} {off : Int} {tgt : Nat} (ha : a < 2 ^ 31) (d : decode cc pc = .ok (.ifCond .eq off, 3)) (ht : (pc : Int) + off = (tgt : Int)) (K1 : a = 0 → q_G Φ xb cc own M Z tgt L S h kc ks) (K2 : 0 < a → q_G Φ xb cc own M Z (pc + 3) L S h kc ks) : q_G Φ xb cc own M Z pc L (.int (nI a) :: S) h kc ks := q_if_eq d ht (fun c => K1 (by rw [← nI_0] at c; exact (nI_eq ha (by omega)).mp c)) (fun c => K2 (Nat.pos_of_ne_zero fun e => c (by rw [e]; rfl)))
theorem q_if_neN {a : Nat} {off : Int} {tgt : Nat} (ha : a < 2 ^ 31) (d : decode cc pc = .ok (.ifCond .ne off, 3)) (ht : (pc : Int) + off = (tgt : Int)) (K1 : 0 < a → q_G Φ xb cc own M Z tgt L S h kc ks) (K2 : a = 0 → q_G Φ xb cc own M Z (pc + 3) L S h kc ks) : q_G Φ xb cc own M Z pc L (.int (nI a) :: S) h kc ks := q_if_ne d ht (fun c => K1 (Nat.pos_of_ne_zero fun e => c (by rw [e]; rfl))) (fun c => K2 (by rw [← nI_0] at c; exact (nI_eq ha (by omega)).mp c))
theorem q_if_leN {a : Nat} {off : Int} {tgt : Nat} (ha : a < 2 ^ 31) (d : decode cc pc = .ok (.ifCond .le off, 3)) (ht : (pc : Int) + off = (tgt : Int)) (K1 : a = 0 → q_G Φ xb cc own M Z tgt L S h kc ks) (K2 : 0 < a → q_G Φ xb cc own M Z (pc + 3) L S h kc ks) : q_G Φ xb cc own M Z pc L (.int (nI a) :: S) h kc ks := q_if_le d ht (fun c => K1 (Nat.eq_zero_of_not_pos fun e => nI_nle e ha c)) (fun c => K2 (Nat.pos_of_ne_zero fun e => c (by rw [e]; decide)))
/-! the forms of a contract -/
def q_is (v : Option Value) (h1 : q_Hp) : Except String (Option Value) → q_Hp → Prop := fun r h' => r = .ok v ∧ h' = h1
def q_ex (P : Option Value → q_Hp → Prop) : Except String (Option Value) → q_Hp → Prop := fun r h' => ∃ v, r = .ok v ∧ P v h'
def q_tk (c : Prop) (E : String) (h0 : q_Hp) (v : Option Value) (h1 : q_Hp) : Except String (Option Value) → q_Hp → Prop := fun r h' => (c ∧ r = .error E ∧ h' = h0) ∨ (¬ c ∧ r = .ok v ∧ h' = h1)
def q_t2 (c1 : Prop) (E1 : String) (c2 : Prop) (E2 : String) (h0 : q_Hp) (P : Option Value → q_Hp → Prop) : Except String (Option Value) → q_Hp → Prop := fun r h' => (c1 ∧ r = .error E1 ∧ h' = h0) ∨ (¬ c1 ∧ c2 ∧ r = .error E2 ∧ h' = h0) ∨ (¬ c1 ∧ ¬ c2 ∧ ∃ v, r = .ok v ∧ P v h')
theorem q_is_i {v : Option Value} {h1 h' : q_Hp} {v' : Option Value} (e : v' = v) (e2 : h' = h1) : q_is v h1 (.ok v') h' := ⟨by rw [e], e2⟩
theorem q_isI {x x' : Int32} {h1 h' : q_Hp} (e : x' = x) (e2 : h' = h1) : q_is (some (.int x)) h1 (.ok (some (.int x'))) h' := ⟨by rw [e], e2⟩
theorem q_vD {y : MethodName} {cc' : ByteArray} {M' : q_M} {index a ci n N : Nat} {T : u_T} {As S0 : List Value} {v : Option Value} {h1' : q_Hp} {kc0 ks0 : Nat} (hC : q_Ct Φ xb y cc' M' (.ref a :: As) h (q_is v h1')) (hw : q_cw y cc' M' n) (hl9 : Cond.methodLink own index y ∈ q_W0) (hin : Cond.instanceMethod y ∈ q_W0) (hse : Cond.selects y.cls y y ∈ q_W0)
    (ha : q_tag a = ci) (hcl : q_cl[ci]? = some (y.cls, T, N)) (h1 : 1 ≤ a) (h2 : a ≤ h.n) (hR : q_fits M' M) (hn : As.length = n) (hS0 : As.reverse ++ .ref a :: S = S0) (hcat : (S.map fun v => v.category).sum ≤ 8) (d : decode cc pc = .ok (.invokevirtual index, 3)) (hkc : kc0 = kc + M'.rm.cells) (hks : ks0 = ks + M'.rm.slots)
    (K : q_G Φ xb cc own M Z (pc + 3) L (v.toList ++ S) h1' kc ks) : q_G Φ xb cc own M Z pc L S0 h kc0 ks0 := by
  subst hkc hks
  exact q_callV hC hw hl9 hin hse ha hcl h1 h2 hR hn hS0 hcat d (fun v' h' q => by cases q.1; cases q.2; exact K) (fun E h' q => nomatch q.1)
theorem q_vR {y : MethodName} {cc' : ByteArray} {M' : q_M} {index a ci n N : Nat} {T : u_T} {As S0 : List Value} {P : Option Value → q_Hp → Prop} {kc0 ks0 : Nat} (hC : q_Ct Φ xb y cc' M' (.ref a :: As) h (q_ex P)) (hw : q_cw y cc' M' n) (hl9 : Cond.methodLink own index y ∈ q_W0) (hin : Cond.instanceMethod y ∈ q_W0) (hse : Cond.selects y.cls y y ∈ q_W0)
    (ha : q_tag a = ci) (hcl : q_cl[ci]? = some (y.cls, T, N)) (h1 : 1 ≤ a) (h2 : a ≤ h.n) (hR : q_fits M' M) (hn : As.length = n) (hS0 : As.reverse ++ .ref a :: S = S0) (hcat : (S.map fun v => v.category).sum ≤ 8) (d : decode cc pc = .ok (.invokevirtual index, 3)) (hkc : kc0 = kc + M'.rm.cells) (hks : ks0 = ks + M'.rm.slots)
    (K : ∀ v h', P v h' → q_G Φ xb cc own M Z (pc + 3) L (v.toList ++ S) h' kc ks) : q_G Φ xb cc own M Z pc L S0 h kc0 ks0 := by
  subst hkc hks
  exact q_callV hC hw hl9 hin hse ha hcl h1 h2 hR hn hS0 hcat d (fun v' h' ⟨_, q, hp⟩ => by cases q; exact K _ _ hp) (fun E h' ⟨_, q, _⟩ => nomatch q)
theorem q_vT {y : MethodName} {cc' : ByteArray} {M' : q_M} {index a ci n N : Nat} {T : u_T} {As S0 : List Value} {c : Prop} {E : String} {v : Option Value} {h0 h1' : q_Hp} {kc0 ks0 : Nat} (hC : q_Ct Φ false y cc' M' (.ref a :: As) h (q_tk c E h0 v h1')) (hw : q_cw y cc' M' n) (hl9 : Cond.methodLink own index y ∈ q_W0) (hin : Cond.instanceMethod y ∈ q_W0) (hse : Cond.selects y.cls y y ∈ q_W0)
    (ha : q_tag a = ci) (hcl : q_cl[ci]? = some (y.cls, T, N)) (h1 : 1 ≤ a) (h2 : a ≤ h.n) (hR : q_fits M' M) (hn : As.length = n) (hS0 : As.reverse ++ .ref a :: S = S0) (hcat : (S.map fun v => v.category).sum ≤ 8) (d : decode cc pc = .ok (.invokevirtual index, 3)) (htb : M.tbl = []) (hkc : kc0 = kc + M'.rm.cells) (hks : ks0 = ks + M'.rm.slots)
    (Kx : c → Q (.error E) h0) (K : ¬ c → q_G Φ false cc own M (q_Zx Φ false M Q) (pc + 3) L (v.toList ++ S) h1' kc ks) : q_G Φ false cc own M (q_Zx Φ false M Q) pc L S0 h kc0 ks0 := by
  subst hkc hks
  refine q_callV hC hw hl9 hin hse ha hcl h1 h2 hR hn hS0 hcat d (fun v' h' q => ?_) (fun E' h' q => ?_)
  · rcases q with q | q
    · exact nomatch q.2.1
    · cases q.2.1; cases q.2.2; exact K q.1
  · rcases q with q | q
    · cases q.2.1; cases q.2.2; exact q_out htb (Kx q.1)
    · exact nomatch q.2.1
theorem q_vT2 {y : MethodName} {cc' : ByteArray} {M' : q_M} {index a ci n N : Nat} {T : u_T} {As S0 : List Value} {c1 c2 : Prop} {E1 E2 : String} {P : Option Value → q_Hp → Prop} {h0 : q_Hp} {kc0 ks0 : Nat} (hC : q_Ct Φ false y cc' M' (.ref a :: As) h (q_t2 c1 E1 c2 E2 h0 P)) (hw : q_cw y cc' M' n) (hl9 : Cond.methodLink own index y ∈ q_W0) (hin : Cond.instanceMethod y ∈ q_W0) (hse : Cond.selects y.cls y y ∈ q_W0)
    (ha : q_tag a = ci) (hcl : q_cl[ci]? = some (y.cls, T, N)) (h1 : 1 ≤ a) (h2 : a ≤ h.n) (hR : q_fits M' M) (hn : As.length = n) (hS0 : As.reverse ++ .ref a :: S = S0) (hcat : (S.map fun v => v.category).sum ≤ 8) (d : decode cc pc = .ok (.invokevirtual index, 3)) (htb : M.tbl = []) (hkc : kc0 = kc + M'.rm.cells) (hks : ks0 = ks + M'.rm.slots)
    (Kx : c1 → Q (.error E1) h0) (Kx2 : ¬ c1 → c2 → Q (.error E2) h0) (K : ¬ c1 → ¬ c2 → ∀ v h', P v h' → q_G Φ false cc own M (q_Zx Φ false M Q) (pc + 3) L (v.toList ++ S) h' kc ks) : q_G Φ false cc own M (q_Zx Φ false M Q) pc L S0 h kc0 ks0 := by
  subst hkc hks
  refine q_callV hC hw hl9 hin hse ha hcl h1 h2 hR hn hS0 hcat d (fun v' h' q => ?_) (fun E' h' q => ?_)
  · rcases q with ⟨_, q, _⟩ | ⟨_, _, q, _⟩ | ⟨n1, n2, v, q, hp⟩
    · exact nomatch q
    · exact nomatch q
    · cases q; exact K n1 n2 _ _ hp
  · rcases q with ⟨c, q, e⟩ | ⟨n1, c, q, e⟩ | ⟨_, _, v, q, _⟩
    · cases q; cases e; exact q_out htb (Kx c)
    · cases q; cases e; exact q_out htb (Kx2 n1 c)
    · exact nomatch q
theorem q_vG {y : MethodName} {cc' : ByteArray} {M' : q_M} {index a ci n N : Nat} {T : u_T} {As S0 : List Value} {Q' : Except String (Option Value) → q_Hp → Prop} {kc0 ks0 : Nat} (hC : q_Ct Φ false y cc' M' (.ref a :: As) h Q') (hw : q_cw y cc' M' n) (hl9 : Cond.methodLink own index y ∈ q_W0) (hin : Cond.instanceMethod y ∈ q_W0) (hse : Cond.selects y.cls y y ∈ q_W0)
    (ha : q_tag a = ci) (hcl : q_cl[ci]? = some (y.cls, T, N)) (h1 : 1 ≤ a) (h2 : a ≤ h.n) (hR : q_fits M' M) (hn : As.length = n) (hS0 : As.reverse ++ .ref a :: S = S0) (hcat : (S.map fun v => v.category).sum ≤ 8) (d : decode cc pc = .ok (.invokevirtual index, 3)) (htb : M.tbl = []) (hkc : kc0 = kc + M'.rm.cells) (hks : ks0 = ks + M'.rm.slots)
    (Kx : ∀ E h', Q' (.error E) h' → Q (.error E) h') (K : ∀ v h', Q' (.ok v) h' → q_G Φ false cc own M (q_Zx Φ false M Q) (pc + 3) L (v.toList ++ S) h' kc ks) : q_G Φ false cc own M (q_Zx Φ false M Q) pc L S0 h kc0 ks0 := by
  subst hkc hks
  exact q_callV hC hw hl9 hin hse ha hcl h1 h2 hR hn hS0 hcat d K (fun E h' q => q_out htb (Kx E h' q))
theorem q_sD {y : MethodName} {cc' : ByteArray} {M' : q_M} {index n : Nat} {As S0 : List Value} {v : Option Value} {h1' : q_Hp} {kc0 ks0 : Nat} (hC : q_Ct Φ xb y cc' M' As h (q_is v h1')) (hw : q_cw y cc' M' n) (hl9 : Cond.methodLink own index y ∈ q_W0) (hst : Cond.static y ∈ q_W0)
    (hR : q_fits M' M) (hn : As.length = n) (hS0 : As.reverse ++ S = S0) (hcat : (S.map fun v => v.category).sum ≤ 8) (d : decode cc pc = .ok (.invokestatic index, 3)) (hkc : kc0 = kc + M'.rm.cells) (hks : ks0 = ks + M'.rm.slots)
    (K : q_G Φ xb cc own M Z (pc + 3) L (v.toList ++ S) h1' kc ks) : q_G Φ xb cc own M Z pc L S0 h kc0 ks0 := by
  subst hkc hks
  exact q_callS hC hw hl9 hst hR hn hS0 hcat d (fun v' h' q => by cases q.1; cases q.2; exact K) (fun E h' q => nomatch q.1)
theorem q_sT {y : MethodName} {cc' : ByteArray} {M' : q_M} {index n : Nat} {As S0 : List Value} {c : Prop} {E : String} {v : Option Value} {h0 h1' : q_Hp} {kc0 ks0 : Nat} (hC : q_Ct Φ false y cc' M' As h (q_tk c E h0 v h1')) (hw : q_cw y cc' M' n) (hl9 : Cond.methodLink own index y ∈ q_W0) (hst : Cond.static y ∈ q_W0)
    (hR : q_fits M' M) (hn : As.length = n) (hS0 : As.reverse ++ S = S0) (hcat : (S.map fun v => v.category).sum ≤ 8) (d : decode cc pc = .ok (.invokestatic index, 3)) (htb : M.tbl = []) (hkc : kc0 = kc + M'.rm.cells) (hks : ks0 = ks + M'.rm.slots)
    (Kx : c → Q (.error E) h0) (K : ¬ c → q_G Φ false cc own M (q_Zx Φ false M Q) (pc + 3) L (v.toList ++ S) h1' kc ks) : q_G Φ false cc own M (q_Zx Φ false M Q) pc L S0 h kc0 ks0 := by
  subst hkc hks
  refine q_callS hC hw hl9 hst hR hn hS0 hcat d (fun v' h' q => ?_) (fun E' h' q => ?_)
  · rcases q with q | q
    · exact nomatch q.2.1
    · cases q.2.1; cases q.2.2; exact K q.1
  · rcases q with q | q
    · cases q.2.1; cases q.2.2; exact q_out htb (Kx q.1)
    · exact nomatch q.2.1
theorem q_snD {y : MethodName} {cc' : ByteArray} {M' : q_M} {index n : Nat} {host : String} {As S0 : List Value} {v : Option Value} {h1' : q_Hp} {kc0 ks0 : Nat} (hC : q_Cm Φ xb y cc' M' As h (q_is v h1')) (hw : q_cw y cc' M' n) (hl9 : Cond.methodLinkNest own index y host ∈ q_nw) (hst : Cond.static y ∈ q_W0)
    (hR : q_fits M' M) (hn : As.length = n) (hS0 : As.reverse ++ S = S0) (hcat : (S.map fun v => v.category).sum ≤ 8) (d : decode cc pc = .ok (.invokestatic index, 3)) (hkc : kc0 = kc + M'.rm.cells) (hks : ks0 = ks + M'.rm.slots)
    (K : q_G Φ xb cc own M Z (pc + 3) L (v.toList ++ S) h1' kc ks) : q_G Φ xb cc own M Z pc L S0 h kc0 ks0 := by
  subst hkc hks
  exact q_callSN hC hw hl9 hst hR hn hS0 hcat d (fun v' h' q => by cases q.1; cases q.2; exact K)
end Q11
/-! rows set -/
theorem q_setI_row (h : q_Hp) (a f : Nat) (v : Int32) : h.setI a f v = h.rowI a (va_up (h.I a) f v) := rfl
theorem q_hpE {h h' : q_Hp} (e1 : h.I = h'.I) (e2 : h.R = h'.R) (e3 : h.J = h'.J) (e4 : h.E = h'.E) (e5 : h.n = h'.n) : h = h' := by
  obtain ⟨a, b, c, d, e⟩ := h
  obtain ⟨a', b', c', d', e'⟩ := h'
  cases e1; cases e2; cases e3; cases e4; cases e5; rfl
theorem q_rr (h : q_Hp) (a : Nat) (f g : Nat → Int32) : (h.rowI a f).rowI a g = h.rowI a g := by
  refine q_hpE (funext fun b => ?_) rfl rfl rfl rfl
  show q_row (q_row h.I a f) a g b = q_row h.I a g b
  unfold q_row
  split <;> rfl
theorem q_rset (h : q_Hp) (a k : Nat) (g : Nat → Int32) (v : Int32) : (h.rowI a g).setI a k v = h.rowI a (va_up g k v) := by
  rw [q_setI_row, q_rr]
  congr 1
  show va_up (q_row h.I a g a) k v = _
  rw [q_row_same]
theorem q_swap (h : q_Hp) {a b : Nat} (f g : Nat → Int32) (hab : a ≠ b) : (h.rowI a f).rowI b g = (h.rowI b g).rowI a f := by
  refine q_hpE (funext fun c => ?_) rfl rfl rfl rfl
  show q_row (q_row h.I a f) b g c = q_row (q_row h.I b g) a f c
  unfold q_row
  by_cases e : c = a
  · rw [if_pos e, if_neg (by omega), if_pos e]
  · rw [if_neg e, if_neg e]
theorem q_rset2 (h : q_Hp) {a b : Nat} (k : Nat) (g f : Nat → Int32) (v : Int32) (hab : a ≠ b) : ((h.rowI a g).rowI b f).setI a k v = (h.rowI a (va_up g k v)).rowI b f := by
  rw [q_swap h g f hab, q_rset, q_swap h (va_up g k v) f hab]
theorem q_rid (h : q_Hp) (a : Nat) : h.rowI a (h.I a) = h := by
  unfold q_Hp.rowI
  have : q_row h.I a (h.I a) = h.I := by
    funext b
    unfold q_row
    split
    · rename_i e; rw [e]
    · rfl
  rw [this]
  rfl
theorem q_rI (h : q_Hp) (a : Nat) (g : Nat → Int32) : (h.rowI a g).I a = g := q_row_same _ _ _
theorem q_rIn (h : q_Hp) {a b : Nat} (g : Nat → Int32) (hn : b ≠ a) : (h.rowI a g).I b = h.I b := q_row_ne _ _ hn
theorem q_sI (h : q_Hp) (a f : Nat) (v : Int32) : (h.setI a f v).I a = va_up (h.I a) f v := q_row_same _ _ _
theorem q_sIn (h : q_Hp) {a b : Nat} (f : Nat) (v : Int32) (hn : b ≠ a) : (h.setI a f v).I b = h.I b := q_row_ne _ _ hn
theorem va_us {α : Type} (f : Nat → α) (k : Nat) (v : α) : va_up f k v k = v := if_pos rfl
theorem va_un {α : Type} (f : Nat → α) {k j : Nat} (v : α) (hn : j ≠ k) : va_up f k v j = f j := if_neg hn
/-! the links as they stand behind the making -/
/-- block r of a State: the target of the link f -/
def q_lkS (B r f : Nat) : Option Nat :=
  if r = 0 then (if f = 1 then some (B + 1) else if f = 2 then some (B + 4) else if f = 3 then some (B + 7) else if f = 4 then some (B + 129) else none)
  else if r = 1 then (if f = 0 then some (B + 2) else if f = 1 then some (B + 3) else none)
  else if r = 4 then (if f = 0 then some (B + 5) else if f = 1 then some (B + 6) else none)
  else if r = 7 then (if f = 0 then some (B + 8) else none)
  else if r = 129 then (if f = 3 then some (B + 130) else none)
  else if 9 ≤ r ∧ r < 129 ∧ (r - 9) % 3 = 0 then (if f = 3 then some (B + r + 1) else if f = 4 then some (B + r + 2) else none)
  else none
def q_lkT (p f : Nat) : Option Nat :=
  if p = 1 then (if f = 0 then some 2 else if f = 1 then some 133 else if f = 2 then some 921 else if f = 4 then some 1052 else if f = 6 then some 1053 else if f = 7 then some 1056 else if f = 8 then some 1057 else if f = 9 then some 1058 else if f = 10 then some 1059 else if f = 11 then some 1060 else none)
  else if p = 133 then (if f = 0 then some 134 else none)
  else if p = 134 then (if f < 6 then some (135 + 131 * f) else none)
  else if p = 1053 then (if f = 0 then some 1054 else if f = 1 then some 1055 else none)
  else if p < 2 then none
  else if p < 133 then q_lkS 2 (p - 2) f
  else if p < 135 then none
  else if p < 921 then q_lkS (135 + 131 * ((p - 135) / 131)) ((p - 135) % 131) f
  else if p < 1052 then q_lkS 921 (p - 921) f
  else none
def q_Lk (Φ : q_Fx) (R : Nat → Nat → Option Nat) (n : Nat) : Prop := Φ.l.stackTraces = false ∧ n = q_N ∧ ∀ p f t, q_lkT p f = some t → R p f = some t
theorem q_Lk.st {Φ : q_Fx} {h : q_Hp} (K : q_Lk Φ h.R h.n) : Φ.l.stackTraces = false := K.1
theorem q_Lk.le {Φ : q_Fx} {h : q_Hp} (K : q_Lk Φ h.R h.n) {a : Nat} (ha : a ≤ 1060) : a ≤ h.n := by rw [K.2.1]; exact ha
theorem q_Lk.lk {Φ : q_Fx} {h : q_Hp} (K : q_Lk Φ h.R h.n) {p f t : Nat} (e : q_lkT p f = some t) : h.R p f = some t := K.2.2 p f t e
theorem q_rng {x : Int32} {a b : Nat} (hc : ¬ ¬ (nI a ≤ x ∧ x ≤ nI b)) (ha : a < 2 ^ 31) (hb : b < 2 ^ 31) : ∃ j : Nat, a ≤ j ∧ j ≤ b ∧ x = nI j := by
  have h := Classical.not_not.mp hc
  have h0 : ¬ x < 0 := fun e => by
    have h1 := h.1
    rw [Int32.le_iff_toInt_le, nI_toInt ha] at h1
    rw [Int32.lt_iff_toInt_lt] at e
    have : (0 : Int32).toInt = 0 := by decide
    omega
  obtain ⟨j, hj, rfl⟩ := nI_of h0
  exact ⟨j, (nI_leI ha hj).mp h.1, (nI_leI hj hb).mp h.2, rfl⟩
theorem q_bl0 (b : Bool) : q_bl b = 0 ↔ b = false := by cases b <;> decide
