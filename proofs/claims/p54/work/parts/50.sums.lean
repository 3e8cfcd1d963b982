/-! SUMS OVER AN ORDER; class and reference hold the same -/
theorem q_sum_set (f : Nat → Int32) (n i : Nat) (x : Int32) (hi : i < n) : q_sum (fun k => if k = i then x else f k) n + f i = q_sum f n + x := by
  induction n with
  | zero => exact absurd hi (Nat.not_lt_zero i)
  | succ n ih =>
    show q_sum (fun k => if k = i then x else f k) n + (if n = i then x else f n) + f i = q_sum f n + f n + x
    by_cases e : n = i
    · subst e
      rw [if_pos rfl, q_sum_cong (g := f) fun k hk => if_neg (by omega)]
      ac_rfl
    · rw [if_neg e]
      have := ih (by omega)
      rw [show q_sum (fun k => if k = i then x else f k) n + f n + f i = (q_sum (fun k => if k = i then x else f k) n + f i) + f n by ac_rfl, this]
      ac_rfl
/-- injective and into itself -/
def q_bij (τ : Nat → Nat) (c : Nat) : Prop := (∀ i, i < c → τ i < c) ∧ ∀ i, i < c → ∀ j, j < c → τ i = τ j → i = j
theorem q_bij_sur : ∀ (c : Nat) (τ : Nat → Nat), q_bij τ c → ∀ k, k < c → ∃ i, i < c ∧ τ i = k := by
  intro c
  induction c with
  | zero => intro τ _ k hk; exact absurd hk (Nat.not_lt_zero k)
  | succ c ih =>
    intro τ h k hk
    by_cases hex : ∃ i, i < c ∧ τ i = c
    · obtain ⟨i0, h0, e0⟩ := hex
      have ha : τ c ≠ c := fun e => by have := h.2 i0 (by omega) c (by omega) (by rw [e0, e]); omega
      have hac : τ c < c := by have := h.1 c (by omega); omega
      have h' : q_bij (fun i => if i = i0 then τ c else τ i) c := by
        refine ⟨fun i hi => ?_, fun i hi j hj e => ?_⟩
        · show (if i = i0 then τ c else τ i) < c
          split
          · exact hac
          · rename_i hne
            have := h.1 i (by omega)
            have : τ i ≠ c := fun e => hne (h.2 i (by omega) i0 (by omega) (by rw [e, e0]))
            omega
        · dsimp only at e
          split at e <;> split at e
          · rename_i a b; rw [a, b]
          · rename_i a b
            have := h.2 c (by omega) j (by omega) e
            omega
          · rename_i a b
            have := h.2 i (by omega) c (by omega) e
            omega
          · exact h.2 i (by omega) j (by omega) e
      by_cases ek : k = c
      · exact ⟨i0, by omega, by rw [e0, ek]⟩
      · obtain ⟨i, h1, h2⟩ := ih _ h' k (by omega)
        try dsimp only at h2
        split at h2
        · exact ⟨c, by omega, h2⟩
        · exact ⟨i, by omega, h2⟩
    · have h' : q_bij τ c := ⟨fun i hi => by
        have := h.1 i (by omega)
        have : τ i ≠ c := fun e => hex ⟨i, hi, e⟩
        omega, fun i hi j hj e => h.2 i (by omega) j (by omega) e⟩
      by_cases ec : τ c = c
      · by_cases ek : k = c
        · exact ⟨c, by omega, by rw [ec, ek]⟩
        · obtain ⟨i, h1, h2⟩ := ih τ h' k (by omega)
          exact ⟨i, by omega, h2⟩
      · have hac : τ c < c := by have := h.1 c (by omega); omega
        obtain ⟨i, h1, h2⟩ := ih τ h' (τ c) hac
        have := h.2 i (by omega) c (by omega) h2
        omega
theorem q_sum_perm (f : Nat → Int32) : ∀ (c : Nat) (τ : Nat → Nat), q_bij τ c → q_sum (fun i => f (τ i)) c = q_sum f c := by
  intro c
  induction c with
  | zero => intro τ _; rfl
  | succ c ih =>
    intro τ h
    obtain ⟨i0, h0, e0⟩ := q_bij_sur _ τ h c (by omega)
    show q_sum (fun i => f (τ i)) c + f (τ c) = q_sum f c + f c
    by_cases ei : i0 = c
    · subst ei
      rw [ih τ ⟨fun i hi => by
        have := h.1 i (by omega)
        have : τ i ≠ i0 := fun e => by have := h.2 i (by omega) i0 (by omega) (by rw [e, e0]); omega
        omega, fun i hi j hj e => h.2 i (by omega) j (by omega) e⟩, e0]
    · have hi0 : i0 < c := by omega
      have ha : τ c ≠ c := fun e => by have := h.2 i0 (by omega) c (by omega) (by rw [e0, e]); omega
      have hac : τ c < c := by have := h.1 c (by omega); omega
      have h' : q_bij (fun i => if i = i0 then τ c else τ i) c := by
        refine ⟨fun i hi => ?_, fun i hi j hj e => ?_⟩
        · show (if i = i0 then τ c else τ i) < c
          split
          · exact hac
          · rename_i hne
            have := h.1 i (by omega)
            have : τ i ≠ c := fun e => hne (h.2 i (by omega) i0 (by omega) (by rw [e, e0]))
            omega
        · dsimp only at e
          split at e <;> split at e
          · rename_i a b; rw [a, b]
          · have := h.2 c (by omega) j (by omega) e
            omega
          · have := h.2 i (by omega) c (by omega) e
            omega
          · exact h.2 i (by omega) j (by omega) e
      have h2 := ih _ h'
      have h3 := q_sum_set (fun i => f (τ i)) c i0 (f (τ c)) hi0
      have e4 : (fun i => f (if i = i0 then τ c else τ i)) = fun k => if k = i0 then f (τ c) else f (τ k) := funext fun k => by split <;> rfl
      rw [e4] at h2
      rw [← h3, h2, e0]
theorem q_sum_add (f g : Nat → Int32) (n : Nat) : q_sum (fun k => f k + g k) n = q_sum f n + q_sum g n := by
  induction n with
  | zero => show (0 : Int32) = 0 + 0; rw [Int32.add_zero]
  | succ n ih =>
    show q_sum (fun k => f k + g k) n + (f n + g n) = q_sum f n + f n + (q_sum g n + g n)
    rw [ih]; ac_rfl
theorem q_sum_zero {f : Nat → Int32} {n : Nat} (h : ∀ k, k < n → f k = 0) : q_sum f n = 0 := by
  induction n with
  | zero => rfl
  | succ n ih =>
    show q_sum f n + f n = 0
    rw [ih fun k hk => h k (by omega), h n (by omega), Int32.add_zero]
theorem q_az_sum (g : Nat → Int32) (z : Nat → Nat) (m : Nat → Int32) (n k : Nat) : q_az g z m n k = g k + q_sum (fun p => if z p = k then m p else 0) n := by
  induction n with
  | zero => show g k = g k + 0; rw [Int32.add_zero]
  | succ n ih =>
    show va_up (q_az g z m n) (z n) (q_az g z m n (z n) + m n) k = g k + (q_sum (fun p => if z p = k then m p else 0) n + if z n = k then m n else 0)
    by_cases e : z n = k
    · rw [if_pos e, ← e, va_us, e, ih]; ac_rfl
    · rw [if_neg e, va_un _ _ (fun h => e h.symm), ih, Int32.add_zero]
/-- a session's minutes in a zone -/
def q_W.zc (W : q_W) (s k : Nat) : Int32 := q_sum (fun p => if W.z s p = k then W.mn s p else 0) (W.pn s)
theorem q_W.za_sum (W : q_W) (g : Nat → Int32) (n k : Nat) : W.za g n k = g k + q_sum (fun i => W.zc (W.σ i) k) n := by
  induction n with
  | zero => show g k = g k + 0; rw [Int32.add_zero]
  | succ n ih =>
    show q_az (W.za g n) _ _ _ k = g k + (q_sum (fun i => W.zc (W.σ i) k) n + W.zc (W.σ n) k)
    rw [q_az_sum, ih, Int32.add_assoc]; rfl
theorem q_W.zd_sum (W : q_W) (g : Nat → Int32) (d n k : Nat) : W.zd g d n k = g k + q_sum (fun i => if W.dy (W.σ i) = d then W.zc (W.σ i) k else 0) n := by
  induction n with
  | zero => show g k = g k + 0; rw [Int32.add_zero]
  | succ n ih =>
    show (if W.dy (W.σ n) = d then q_az (W.zd g d n) _ _ _ else W.zd g d n) k = g k + (q_sum (fun i => if W.dy (W.σ i) = d then W.zc (W.σ i) k else 0) n + if W.dy (W.σ n) = d then W.zc (W.σ n) k else 0)
    by_cases e : W.dy (W.σ n) = d
    · rw [if_pos e, if_pos e, q_az_sum, ih, Int32.add_assoc]; rfl
    · rw [if_neg e, if_neg e, ih, Int32.add_zero]
theorem q_W.dl_sum (W : q_W) (g : Nat → Int32) (n k : Nat) (hk : k < 200) : W.dl g n k = q_sum (fun i => if W.dy (W.σ i) = k then W.ld (W.σ i) else 0) n := by
  induction n with
  | zero => show q_cpy (fun _ => nI 0) g 200 k = 0; rw [q_cpy_lt _ _ hk]; rfl
  | succ n ih =>
    show va_up (W.dl g n) (W.dy (W.σ n)) (W.dl g n (W.dy (W.σ n)) + W.ld (W.σ n)) k = q_sum (fun i => if W.dy (W.σ i) = k then W.ld (W.σ i) else 0) n + if W.dy (W.σ n) = k then W.ld (W.σ n) else 0
    by_cases e : W.dy (W.σ n) = k
    · rw [if_pos e, ← e, va_us, e, ih]
    · rw [if_neg e, va_un _ _ (fun h => e h.symm), ih, Int32.add_zero]
theorem q_W.D_sum (W : q_W) {k : Nat} (hk : k < 200) : W.D k = q_sum (fun i => if W.dy (W.σ i) = k then W.ld (W.σ i) else 0) W.c := W.dl_sum _ _ _ hk
theorem q_cn_sum (p : Nat → Bool) (n : Nat) : nI (q_cn p n) = q_sum (fun i => if p i then nI 1 else 0) n := by
  induction n with
  | zero => rfl
  | succ n ih =>
    show nI (if p n then q_cn p n + 1 else q_cn p n) = q_sum (fun i => if p i then nI 1 else 0) n + if p n then nI 1 else 0
    rw [← ih]
    split
    · rw [nI_add]
    · rw [Int32.add_zero]
/-! the same content -/
/-- a session of W and one of m -/
def q_ss1 (W : q_W) (s : Nat) (m : q_W) (k : Nat) : Prop := W.id s = m.id k ∧ W.dy s = m.dy k ∧ W.pn s = m.pn k ∧ ∀ p, p < m.pn k → W.mn s p = m.mn k p ∧ W.it s p = m.it k p
/-- what doesn't speak of sessions -/
def q_si0 (W m : q_W) : Prop := W.t = m.t ∧ W.c = m.c ∧ W.nx = m.nx ∧ W.n = m.n ∧ (∀ i, i < m.n → W.d i = m.d i ∧ W.v i = m.v i) ∧ (∀ z, 2 ≤ z → z ≤ 5 → W.bd z = m.bd z) ∧ (∀ z, 1 ≤ z → z ≤ 5 → W.wt z = m.wt z) ∧
  W.pe = m.pe ∧ W.pf = m.pf ∧ W.pc = m.pc ∧ ∀ e, e < m.pc → W.tg e = m.tg e
/-- the same sessions, by τ; W's in order of day and id -/
def q_si1 (W m : q_W) (τ : Nat → Nat) : Prop := q_bij τ m.c ∧ (∀ i, i < m.c → q_ss1 W (W.σ i) m (τ i)) ∧ ∀ i j, i < j → j < m.c → q_bf W (W.σ i) (W.σ j)
/-- the reference's own order -/
def q_si2 (m : q_W) (N : Nat) : Prop := (∀ i, m.σ i = i) ∧ m.c ≤ 40 ∧ m.nx = nI N ∧ (∀ k, k < m.c → ∃ a, a < N ∧ m.id k = nI a) ∧ (∀ k, k < m.c → ∀ l, l < m.c → m.id k = m.id l → k = l) ∧ (∀ k, k < m.c → m.dy k ≤ m.t) ∧ m.t ≤ 199 ∧ q_val m
def q_sim (W m : q_W) (N : Nat) : Prop := q_si0 W m ∧ (∃ τ, q_si1 W m τ) ∧ q_si2 m N
section QSI
variable {W m : q_W} {N : Nat} {τ : Nat → Nat}
theorem q_th_eq (a : q_si0 W m) (day : Int32) : W.th day = m.th day := by
  have key : ∀ n, n ≤ m.n → q_thr W.d W.v day n = q_thr m.d m.v day n := by
    intro n
    induction n with
    | zero => intro _; rfl
    | succ n ih =>
      intro hn
      unfold q_thr
      rw [ih (by omega), (a.2.2.2.2.1 n (by omega)).1, (a.2.2.2.2.1 n (by omega)).2]
  unfold q_W.th
  rw [a.2.2.2.1, key _ (Nat.le_refl _)]
theorem q_zn_eq (a : q_si0 W m) (x t : Int32) : q_zn W.bd x t = q_zn m.bd x t := by
  unfold q_zn
  rw [a.2.2.2.2.2.1 5 (by omega) (by omega), a.2.2.2.2.2.1 4 (by omega) (by omega), a.2.2.2.2.2.1 3 (by omega) (by omega), a.2.2.2.2.2.1 2 (by omega) (by omega)]
theorem q_lt_eq (a : q_si0 W m) {s k : Nat} (e : q_ss1 W s m k) : W.lt s = m.lt k := by
  unfold q_W.lt
  rw [e.2.1, q_th_eq a]
theorem q_z_eq (a : q_si0 W m) {s k p : Nat} (e : q_ss1 W s m k) (hp : p < m.pn k) : W.z s p = m.z k p := by
  unfold q_W.z
  rw [q_lt_eq a e, (e.2.2.2 p hp).2, q_zn_eq a]
theorem q_ld_eq (a : q_si0 W m) {s k : Nat} (e : q_ss1 W s m k) : W.ld s = m.ld k := by
  unfold q_W.ld
  rw [e.2.2.1]
  refine q_sum_cong fun p hp => ?_
  have hz := q_zn_le m.bd (m.it k p) (m.lt k)
  rw [(e.2.2.2 p hp).1, q_z_eq a e hp, a.2.2.2.2.2.2.1 (m.z k p) hz.1 hz.2]
theorem q_len_eq {s k : Nat} (e : q_ss1 W s m k) : W.len s = m.len k := by
  unfold q_W.len
  rw [e.2.2.1]
  exact q_sum_cong fun p hp => (e.2.2.2 p hp).1
theorem q_zc_eq (a : q_si0 W m) {s k : Nat} (e : q_ss1 W s m k) (z : Nat) : W.zc s z = m.zc k z := by
  unfold q_W.zc
  rw [e.2.2.1]
  exact q_sum_cong fun p hp => by rw [q_z_eq a e hp, (e.2.2.2 p hp).1]
theorem q_ml_eq {s k : Nat} (e : q_ss1 W s m k) : W.ml s = m.ml k := by
  unfold q_W.ml
  rw [e.2.2.1]
  exact q_cm_cong fun p hp => (e.2.2.2 p hp).1
theorem q_fm_cong {m1 m2 i1 i2 g : Nat → Int32} {n : Nat} (h : ∀ p, p < n → m1 p = m2 p ∧ i1 p = i2 p) (x : Nat) : q_fm m1 i1 g n x = q_fm m2 i2 g n x := by
  induction n with
  | zero => rfl
  | succ n ih =>
    show (if q_cm m1 n ≤ x ∧ x < q_cm m1 (n + 1) then i1 n else q_fm m1 i1 g n x) = (if q_cm m2 n ≤ x ∧ x < q_cm m2 (n + 1) then i2 n else q_fm m2 i2 g n x)
    rw [q_cm_cong fun p hp => (h p (by omega)).1, q_cm_cong (n := n + 1) fun p hp => (h p hp).1, (h n (by omega)).2, ih fun p hp => h p (by omega)]
theorem q_im_eq {s k : Nat} (e : q_ss1 W s m k) (x : Nat) : W.im s x = m.im k x := by
  unfold q_W.im
  rw [e.2.2.1]
  exact q_fm_cong (fun p hp => e.2.2.2 p hp) x
theorem q_ef_eq {s k : Nat} (e : q_ss1 W s m k) (n : Nat) : W.ef s n = m.ef k n := by
  unfold q_W.ef
  rw [q_ml_eq e, show W.im s = m.im k from funext fun x => q_im_eq e x]
/-- by trying as by sums -/
theorem q_sum_split (f : Nat → Int32) (a b : Nat) : q_sum f (a + b) = q_sum f a + q_sum (fun k => f (a + k)) b := by
  induction b with
  | zero => show q_sum f a = q_sum f a + 0; rw [Int32.add_zero]
  | succ b ih =>
    show q_sum f (a + b) + f (a + b) = q_sum f a + (q_sum (fun k => f (a + k)) b + f (a + b))
    rw [ih, Int32.add_assoc]
theorem q_et_ef (W : q_W) (s n : Nat) : W.et s n = W.ef s n := by
  unfold q_W.et q_W.ef
  have : (fun e => q_sum (fun k => W.im s (e + k)) n) = fun e => q_sum (W.im s) (n + e) - q_sum (W.im s) e := funext fun e => by
    rw [Nat.add_comm n e, q_sum_split, Int32.add_comm, Int32.sub_eq_add_neg, Int32.add_assoc, ← Int32.sub_eq_add_neg, Int32.sub_self, Int32.add_zero]
  rw [this]
theorem q_D_eq (a : q_si0 W m) (b : q_si1 W m τ) (c : q_si2 m N) {k : Nat} (hk : k < 200) : W.D k = m.D k := by
  rw [W.D_sum hk, m.D_sum hk, a.2.1]
  rw [← q_sum_perm (fun i => if m.dy (m.σ i) = k then m.ld (m.σ i) else 0) m.c τ b.1]
  refine q_sum_cong fun i hi => ?_
  have e := b.2.1 i hi
  rw [c.1, e.2.1, q_ld_eq a e]
theorem q_zs_eq (a : q_si0 W m) (b : q_si1 W m τ) (c : q_si2 m N) (k : Nat) : W.zs k = m.zs k := by
  unfold q_W.zs
  rw [W.za_sum, m.za_sum, a.2.1, ← q_sum_perm (fun i => m.zc (m.σ i) k) m.c τ b.1]
  congr 1
  exact q_sum_cong fun i hi => by rw [c.1, q_zc_eq a (b.2.1 i hi)]
theorem q_all_eq (a : q_si0 W m) (b : q_si1 W m τ) (c : q_si2 m N) : W.all = m.all := by
  unfold q_W.all
  rw [a.2.1, ← q_sum_perm (fun i => m.len (m.σ i)) m.c τ b.1]
  exact q_sum_cong fun i hi => by rw [c.1, q_len_eq (b.2.1 i hi)]
theorem q_zr_eq (a : q_si0 W m) (b : q_si1 W m τ) (c : q_si2 m N) (d k : Nat) : W.zr d k = m.zr d k := by
  unfold q_W.zr
  rw [W.zd_sum, m.zd_sum, a.2.1, ← q_sum_perm (fun i => if m.dy (m.σ i) = d then m.zc (m.σ i) k else 0) m.c τ b.1]
  congr 1
  exact q_sum_cong fun i hi => by rw [c.1, (b.2.1 i hi).2.1, q_zc_eq a (b.2.1 i hi)]
end QSI
