/-! THE CONSTRUCTORS -/
/-- a row of ints that stays zeros -/
def q_zr (p len : Nat) : Prop := q_tag p = 12 ∧ q_len p = len ∧ (∀ f, q_lkX p f = none) ∧ q_ik p = 0
/-- a row of characters -/
def q_zc (p len : Nat) : Prop := q_tag p = 11 ∧ q_len p = len ∧ (∀ f, q_lkX p f = none) ∧ q_ik p = 0
/-- within a constructor: the object at a, and a place b that is filled later -/
def q_mid2 (a b : Nat) (h0 h : q_Hp) (F : Nat → Option Nat) (g : Nat → Int32) (G : Nat → Option Nat) : Prop := a < b ∧ b ≤ h.n ∧ q_kpt a h0 h ∧ (∀ p, a < p → p ≠ b → p ≤ h.n → q_dn h p) ∧ (∀ f, h.I a f = 0) ∧ (∀ f t, F f = some t → h.R a f = some t) ∧ h.I b = g ∧ ∀ f t, G f = some t → h.R b f = some t
section Q73
variable {a b K : Nat} {h0 h h' : q_Hp} {F G : Nat → Option Nat} {g : Nat → Int32}
theorem q_mid.arr2 (m : q_mid a h0 h F) : q_mid2 a (h.n + 1) h0 h.grow F (fun _ => 0) (fun _ => none) := by
  obtain ⟨m1, m2, m3, m4, m5⟩ := m
  refine ⟨by omega, Nat.le_refl _, fun p hp => ⟨(h.grow_I (by omega)).trans (m2 p hp).1, (h.grow_R (by omega)).trans (m2 p hp).2⟩, fun p h1 h2 h3 => ?_, fun f => by rw [h.grow_I (by omega)]; exact m4 f, fun f t hf => by rw [h.grow_R (by omega)]; exact m5 f t hf, h.grow_I', fun _ _ e => by cases e⟩
  have h3 : p ≤ h.n + 1 := h3
  exact (m3 p h1 (by omega)).cong (h.grow_I h2) (h.grow_R h2)
theorem q_mid2.setI (m : q_mid2 a b h0 h F g G) {f : Nat} : q_mid2 a b h0 (h.setI a f (nI 0)) F g G := by
  obtain ⟨m0, m1, m2, m3, m4, m5, m6, m7⟩ := m
  refine ⟨m0, m1, fun p hp => ⟨(q_sIn _ _ _ (by omega)).trans (m2 p hp).1, (m2 p hp).2⟩, fun p h1 h2 h3 => (m3 p h1 h2 h3).cong (q_sIn _ _ _ (by omega)) rfl, fun e => ?_, m5, (q_sIn _ _ _ (by omega)).trans m6, m7⟩
  rw [q_sI]
  by_cases e1 : e = f
  · rw [e1, va_us]; rfl
  · rw [va_un _ _ e1]; exact m4 e
theorem q_mid2.setR (m : q_mid2 a b h0 h F g G) {f t : Nat} : q_mid2 a b h0 (h.setR a f (some t)) (va_up F f (some t)) g G := by
  obtain ⟨m0, m1, m2, m3, m4, m5, m6, m7⟩ := m
  refine ⟨m0, m1, fun p hp => ⟨(m2 p hp).1, (q_setR_n h (by omega)).trans (m2 p hp).2⟩, fun p h1 h2 h3 => (m3 p h1 h2 h3).cong rfl (q_setR_n h (by omega)), m4, fun e u he => ?_, m6, fun e u he => by rw [q_setR_n h (by omega)]; exact m7 e u he⟩
  rw [q_setR_s]
  by_cases e1 : e = f
  · rw [e1, va_us] at he ⊢; exact he
  · rw [va_un _ _ e1] at he ⊢; exact m5 e u he
theorem q_mid2.arr (m : q_mid2 a b h0 h F g G) (hl : ∀ f, q_lkX (h.n + 1) f = none) (hi : q_ik (h.n + 1) = 0) : q_mid2 a b h0 h.grow F g G := by
  obtain ⟨m0, m1, m2, m3, m4, m5, m6, m7⟩ := m
  refine ⟨m0, Nat.le_succ_of_le m1, fun p hp => ⟨(h.grow_I (by omega)).trans (m2 p hp).1, (h.grow_R (by omega)).trans (m2 p hp).2⟩, fun p h1 h2 h3 => ?_, fun f => by rw [h.grow_I (by omega)]; exact m4 f, fun f t hf => by rw [h.grow_R (by omega)]; exact m5 f t hf, (h.grow_I (by omega)).trans m6, fun f t hf => by rw [h.grow_R (by omega)]; exact m7 f t hf⟩
  by_cases e : p = h.n + 1
  · subst e
    exact ⟨fun f t ht => (by rw [hl f] at ht; cases ht), fun f => by rw [h.grow_I', q_i00 hi]⟩
  · have h3 : p ≤ h.n + 1 := h3
    exact (m3 p h1 h2 (by omega)).cong (h.grow_I e) (h.grow_R e)
theorem q_mid2.call (m : q_mid2 a b h0 h F g G) {v : Option Value} (q : q_pst (h.n + 1) K h.grow v h') : q_mid2 a b h0 h' F g G ∧ h'.n = h.n + 1 + K := by
  obtain ⟨m0, m1, m2, m3, m4, m5, m6, m7⟩ := m
  obtain ⟨-, q1, q2, q3⟩ := q
  have old : ∀ p, p ≤ h.n → h'.I p = h.I p ∧ h'.R p = h.R p := fun p hp => ⟨((q2 p (by omega)).1).trans (h.grow_I (by omega)), ((q2 p (by omega)).2).trans (h.grow_R (by omega))⟩
  refine ⟨⟨m0, by omega, fun p hp => ⟨(old p (by omega)).1.trans (m2 p hp).1, (old p (by omega)).2.trans (m2 p hp).2⟩, fun p h1 h2 h3 => ?_, fun f => by rw [(old a (by omega)).1]; exact m4 f, fun f t hf => by rw [(old a (by omega)).2]; exact m5 f t hf, (old b m1).1.trans m6, fun f t hf => by rw [(old b m1).2]; exact m7 f t hf⟩, q1⟩
  by_cases e : p ≤ h.n
  · exact (m3 p h1 h2 e).cong (old p e).1 (old p e).2
  · exact q3 p (by omega) (by omega)
theorem q_mid2.putI (m : q_mid2 a b h0 h F g G) {f : Nat} {v : Int32} : q_mid2 a b h0 (h.setI b f v) F (va_up g f v) G := by
  obtain ⟨m0, m1, m2, m3, m4, m5, m6, m7⟩ := m
  exact ⟨m0, m1, fun p hp => ⟨(q_sIn _ _ _ (by omega)).trans (m2 p hp).1, (m2 p hp).2⟩, fun p h1 h2 h3 => (m3 p h1 h2 h3).cong (q_sIn _ _ _ h2) rfl, fun f2 => (congrFun (q_sIn _ _ _ (by omega)) f2).trans (m4 f2), m5, by rw [q_sI, m6], m7⟩
theorem q_mid2.putR (m : q_mid2 a b h0 h F g G) {f t : Nat} : q_mid2 a b h0 (h.setR b f (some t)) F g (va_up G f (some t)) := by
  obtain ⟨m0, m1, m2, m3, m4, m5, m6, m7⟩ := m
  refine ⟨m0, m1, fun p hp => ⟨(m2 p hp).1, (q_setR_n h (by omega)).trans (m2 p hp).2⟩, fun p h1 h2 h3 => (m3 p h1 h2 h3).cong rfl (q_setR_n h h2), m4, fun e u he => by rw [q_setR_n h (by omega)]; exact m5 e u he, m6, fun e u he => ?_⟩
  rw [q_setR_s]
  by_cases e1 : e = f
  · rw [e1, va_us] at he ⊢; exact he
  · rw [va_un _ _ e1] at he ⊢; exact m7 e u he
theorem q_mid2.fin (m : q_mid2 a b h0 h F g G) (hn : h.n = a + K) (hl : ∀ f t, q_lkX a f = some t → F f = some t) (hi : q_ik a = 0) (hl2 : ∀ f t, q_lkX b f = some t → G f = some t) (hg : ∀ f, g f = q_i0 b f) : q_pst a K h0 none h := by
  obtain ⟨m0, m1, m2, m3, m4, m5, m6, m7⟩ := m
  refine ⟨rfl, hn, m2, fun p h1 h2 => ?_⟩
  by_cases e : p = a
  · subst e
    exact ⟨fun f t ht => m5 f t (hl f t ht), fun f => by rw [q_i00 hi]; exact m4 f⟩
  by_cases e1 : p = b
  · subst e1
    exact ⟨fun f t ht => m7 f t (hl2 f t ht), fun f => by rw [m6]; exact hg f⟩
  · exact m3 p (by omega) e1 (by omega)
end Q73
/-- links of one kind, i of them -/
def q_Gs (c d i : Nat) : Nat → Option Nat := fun f => if f < i then some (c + d * f) else none
theorem q_Gs_0 (c d : Nat) : q_Gs c d 0 = fun _ => none := funext fun f => if_neg (Nat.not_lt_zero f)
theorem q_Gs_s (c d i : Nat) : va_up (q_Gs c d i) i (some (c + d * i)) = q_Gs c d (i + 1) := by
  funext f
  unfold va_up q_Gs
  by_cases e : f = i
  · subst e; rw [if_pos rfl, if_pos (by omega)]
  · rw [if_neg e]
    by_cases e2 : f < i
    · rw [if_pos e2, if_pos (by omega)]
    · rw [if_neg e2, if_neg (by omega)]
theorem q_bk1 {B : Nat} (hB : q_bk B) : 1 ≤ B := by rcases hB with rfl | rfl | ⟨j, hj, rfl⟩ <;> omega
theorem q_zrb {B : Nat} (hB : q_bk B) {r len : Nat} (hr : r < 131) (h12 : q_tagS r = 12) (hl : q_lenS r = len) (hi : q_ikS r = 0) : q_zr (B + r) len := ⟨(q_tgb hB hr).trans h12, (q_lnb hB hr).trans hl, q_lkXr hB hr h12, (q_ikb hB hr).trans hi⟩
theorem q_lk0 {B : Nat} (hB : q_bk B) : ∀ f t, q_lkX B f = some t → va_up (va_up (va_up (va_up (fun _ => none) 1 (some (B + 1))) 2 (some (B + 4))) 3 (some (B + 7))) 4 (some (B + 129)) f = some t := by
  intro f t e
  rw [show q_lkX B f = q_lkS B 0 f from q_lkXb hB (r := 0) (by decide) (by decide) f] at e
  have e : (if f = 1 then some (B + 1) else if f = 2 then some (B + 4) else if f = 3 then some (B + 7) else if f = 4 then some (B + 129) else none) = some t := e
  unfold va_up
  by_cases c4 : f = 4
  · subst c4; exact e
  rw [if_neg c4]
  by_cases c3 : f = 3
  · subst c3; exact e
  rw [if_neg c3]
  by_cases c2 : f = 2
  · subst c2; exact e
  rw [if_neg c2]
  by_cases c1 : f = 1
  · subst c1; exact e
  rw [if_neg c1, if_neg c2, if_neg c3, if_neg c4] at e
  cases e
theorem q_lk1 {B : Nat} (hB : q_bk B) : ∀ f t, q_lkX (B + 1) f = some t → va_up (va_up (fun _ => none) 0 (some (B + 1 + 1))) 1 (some (B + 1 + 2)) f = some t := by
  intro f t e
  rw [q_lkXb hB (r := 1) (by decide) (by decide) f] at e
  have e : (if f = 0 then some (B + 2) else if f = 1 then some (B + 3) else none) = some t := e
  unfold va_up
  by_cases c1 : f = 1
  · subst c1; exact e
  rw [if_neg c1]
  by_cases c0 : f = 0
  · subst c0; exact e
  rw [if_neg c0, if_neg c1] at e
  cases e
theorem q_lk4 {B : Nat} (hB : q_bk B) : ∀ f t, q_lkX (B + 4) f = some t → va_up (va_up (fun _ => none) 0 (some (B + 5))) 1 (some (B + 6)) f = some t := by
  intro f t e
  rw [q_lkXb hB (r := 4) (by decide) (by decide) f] at e
  have e : (if f = 0 then some (B + 5) else if f = 1 then some (B + 6) else none) = some t := e
  unfold va_up
  by_cases c1 : f = 1
  · subst c1; exact e
  rw [if_neg c1]
  by_cases c0 : f = 0
  · subst c0; exact e
  rw [if_neg c0, if_neg c1] at e
  cases e
theorem q_lk7 {B : Nat} (hB : q_bk B) : ∀ f t, q_lkX (B + 7) f = some t → va_up (fun _ => none) 0 (some (B + 8)) f = some t := by
  intro f t e
  rw [q_lkXb hB (r := 7) (by decide) (by decide) f] at e
  have e : (if f = 0 then some (B + 8) else none) = some t := e
  unfold va_up
  exact e
theorem q_lk129 {B : Nat} (hB : q_bk B) : ∀ f t, q_lkX (B + 129) f = some t → va_up (fun _ => none) 3 (some (B + 129 + 1)) f = some t := by
  intro f t e
  rw [q_lkXb hB (r := 129) (by decide) (by decide) f] at e
  have e : (if f = 3 then some (B + 130) else none) = some t := e
  unfold va_up
  exact e
/-- a session of a block -/
theorem q_ses {B i : Nat} (hB : q_bk B) (hi : i < 40) : q_tag (B + 9 + 3 * i) = 3 ∧ q_zr (B + 9 + 3 * i + 1) 8 ∧ q_zr (B + 9 + 3 * i + 2) 8 ∧ (∀ f t, q_lkX (B + 9 + 3 * i) f = some t → va_up (va_up (fun _ => none) 3 (some (B + 9 + 3 * i + 1))) 4 (some (B + 9 + 3 * i + 2)) f = some t) ∧ q_ik (B + 9 + 3 * i) = 0 := by
  have k0 : ∀ i, i < 40 → q_tagS (9 + 3 * i) = 3 ∧ q_ikS (9 + 3 * i) = 0 ∧ q_tagS (10 + 3 * i) = 12 ∧ q_lenS (10 + 3 * i) = 8 ∧ q_ikS (10 + 3 * i) = 0 ∧ q_tagS (11 + 3 * i) = 12 ∧ q_lenS (11 + 3 * i) = 8 ∧ q_ikS (11 + 3 * i) = 0 := by decide +kernel
  obtain ⟨t3, i3, t4, l4, i4, t5, l5, i5⟩ := k0 i hi
  have z1 : q_zr (B + (10 + 3 * i)) 8 := q_zrb hB (by omega) t4 l4 i4
  have z2 : q_zr (B + (11 + 3 * i)) 8 := q_zrb hB (by omega) t5 l5 i5
  have e1 : B + 9 + 3 * i = B + (9 + 3 * i) := by omega
  refine ⟨by rw [e1, q_tgb hB (by omega)]; exact t3, by rw [show B + 9 + 3 * i + 1 = B + (10 + 3 * i) by omega]; exact z1, by rw [show B + 9 + 3 * i + 2 = B + (11 + 3 * i) by omega]; exact z2, fun f t e => ?_, by rw [e1, q_ikb hB (by omega)]; exact i3⟩
  rw [e1, q_lkXb hB (by omega) (by rw [t3]; decide)] at e
  unfold q_lkS at e
  rw [if_neg (by omega), if_neg (by omega), if_neg (by omega), if_neg (by omega), if_neg (by omega), if_pos (by omega)] at e
  unfold va_up
  by_cases c4 : f = 4
  · rw [if_neg (by omega), if_pos c4] at e
    rw [if_pos c4, ← e]; congr 1; omega
  · rw [if_neg c4]
    by_cases c3 : f = 3
    · rw [if_pos c3] at e
      rw [if_pos c3, ← e]; congr 1; omega
    · rw [if_neg c3, if_neg c4] at e
      cases e
theorem q_df0 : ∀ j, j < 3 → defaultValue (tyX0 j) = if (q_kinds 0)[j]? = some true then .null else .int 0 := by
  intro j hj
  rcases (show j = 0 ∨ j = 1 ∨ j = 2 by omega) with rfl | rfl | rfl <;> rfl
theorem q_ii0 : Cond.instantiable RX0 3 ∈ q_W0 ∧ Cond.initialized RX0 ∈ q_W0 := ⟨q_W0_mem (List.mem_of_getElem? (i := 229) (by decide +kernel)) (by decide +kernel), q_W0_mem (List.mem_of_getElem? (i := 18) (by decide +kernel)) (by decide +kernel)⟩
theorem q_df1 : ∀ j, j < 3 → defaultValue (tyX1 j) = if (q_kinds 1)[j]? = some true then .null else .int 0 := by
  intro j hj
  rcases (show j = 0 ∨ j = 1 ∨ j = 2 by omega) with rfl | rfl | rfl <;> rfl
theorem q_ii1 : Cond.instantiable RX1 3 ∈ q_W0 ∧ Cond.initialized RX1 ∈ q_W0 := ⟨q_W0_mem (List.mem_of_getElem? (i := 192) (by decide +kernel)) (by decide +kernel), q_W0_mem (List.mem_of_getElem? (i := 16) (by decide +kernel)) (by decide +kernel)⟩
theorem q_df2 : ∀ j, j < 4 → defaultValue (tyX2 j) = if (q_kinds 2)[j]? = some true then .null else .int 0 := by
  intro j hj
  rcases (show j = 0 ∨ j = 1 ∨ j = 2 ∨ j = 3 by omega) with rfl | rfl | rfl | rfl <;> rfl
theorem q_ii2 : Cond.instantiable RX2 4 ∈ q_W0 ∧ Cond.initialized RX2 ∈ q_W0 := ⟨q_W0_mem (List.mem_of_getElem? (i := 145) (by decide +kernel)) (by decide +kernel), q_W0_mem (List.mem_of_getElem? (i := 15) (by decide +kernel)) (by decide +kernel)⟩
theorem q_df3 : ∀ j, j < 5 → defaultValue (tyX3 j) = if (q_kinds 3)[j]? = some true then .null else .int 0 := by
  intro j hj
  rcases (show j = 0 ∨ j = 1 ∨ j = 2 ∨ j = 3 ∨ j = 4 by omega) with rfl | rfl | rfl | rfl | rfl <;> rfl
theorem q_ii3 : Cond.instantiable RX3 5 ∈ q_W0 ∧ Cond.initialized RX3 ∈ q_W0 := ⟨q_W0_mem (List.mem_of_getElem? (i := 99) (by decide +kernel)) (by decide +kernel), q_W0_mem (List.mem_of_getElem? (i := 14) (by decide +kernel)) (by decide +kernel)⟩
theorem q_df4 : ∀ j, j < 3 → defaultValue (tyX4 j) = if (q_kinds 4)[j]? = some true then .null else .int 0 := by
  intro j hj
  rcases (show j = 0 ∨ j = 1 ∨ j = 2 by omega) with rfl | rfl | rfl <;> rfl
theorem q_ii4 : Cond.instantiable RX4 3 ∈ q_W0 ∧ Cond.initialized RX4 ∈ q_W0 := ⟨q_W0_mem (List.mem_of_getElem? (i := 92) (by decide +kernel)) (by decide +kernel), q_W0_mem (List.mem_of_getElem? (i := 13) (by decide +kernel)) (by decide +kernel)⟩
theorem q_df5 : ∀ j, j < 5 → defaultValue (tyX5 j) = if (q_kinds 5)[j]? = some true then .null else .int 0 := by
  intro j hj
  rcases (show j = 0 ∨ j = 1 ∨ j = 2 ∨ j = 3 ∨ j = 4 by omega) with rfl | rfl | rfl | rfl | rfl <;> rfl
theorem q_ii5 : Cond.instantiable RX5 5 ∈ q_W0 ∧ Cond.initialized RX5 ∈ q_W0 := ⟨q_W0_mem (List.mem_of_getElem? (i := 40) (by decide +kernel)) (by decide +kernel), q_W0_mem (List.mem_of_getElem? (i := 10) (by decide +kernel)) (by decide +kernel)⟩
theorem q_df6 : ∀ j, j < 3 → defaultValue (tyX6 j) = if (q_kinds 6)[j]? = some true then .null else .int 0 := by
  intro j hj
  rcases (show j = 0 ∨ j = 1 ∨ j = 2 by omega) with rfl | rfl | rfl <;> rfl
theorem q_ii6 : Cond.instantiable RX6 3 ∈ q_W0 ∧ Cond.initialized RX6 ∈ q_W0 := ⟨q_W0_mem (List.mem_of_getElem? (i := 46) (by decide +kernel)) (by decide +kernel), q_W0_mem (List.mem_of_getElem? (i := 11) (by decide +kernel)) (by decide +kernel)⟩
theorem q_df7 : ∀ j, j < 3 → defaultValue (tyX7 j) = if (q_kinds 7)[j]? = some true then .null else .int 0 := by
  intro j hj
  rcases (show j = 0 ∨ j = 1 ∨ j = 2 by omega) with rfl | rfl | rfl <;> rfl
theorem q_ii7 : Cond.instantiable RX7 3 ∈ q_W0 ∧ Cond.initialized RX7 ∈ q_W0 := ⟨q_W0_mem (List.mem_of_getElem? (i := 212) (by decide +kernel)) (by decide +kernel), q_W0_mem (List.mem_of_getElem? (i := 17) (by decide +kernel)) (by decide +kernel)⟩
theorem q_df8 : ∀ j, j < 2 → defaultValue (tyX8 j) = if (q_kinds 8)[j]? = some true then .null else .int 0 := by
  intro j hj
  rcases (show j = 0 ∨ j = 1 by omega) with rfl | rfl <;> rfl
theorem q_ii8 : Cond.instantiable RX8 2 ∈ q_W0 ∧ Cond.initialized RX8 ∈ q_W0 := ⟨q_W0_mem (List.mem_of_getElem? (i := 65) (by decide +kernel)) (by decide +kernel), q_W0_mem (List.mem_of_getElem? (i := 12) (by decide +kernel)) (by decide +kernel)⟩
theorem q_df9 : ∀ j, j < 12 → defaultValue (tyX9 j) = if (q_kinds 9)[j]? = some true then .null else .int 0 := by
  intro j hj
  rcases (show j = 0 ∨ j = 1 ∨ j = 2 ∨ j = 3 ∨ j = 4 ∨ j = 5 ∨ j = 6 ∨ j = 7 ∨ j = 8 ∨ j = 9 ∨ j = 10 ∨ j = 11 by omega) with rfl | rfl | rfl | rfl | rfl | rfl | rfl | rfl | rfl | rfl | rfl | rfl <;> rfl
theorem q_ii9 : Cond.instantiable RX9 12 ∈ q_W0 ∧ Cond.initialized RX9 ∈ q_W0 := ⟨q_W0_mem (List.mem_of_getElem? (i := 32) (by decide +kernel)) (by decide +kernel), q_W0_mem (List.mem_of_getElem? (i := 9) (by decide +kernel)) (by decide +kernel)⟩
theorem g_X3_init {Φ : q_Fx} (hst : Φ.l.stackTraces = false) {a : Nat} (a1 : 1 ≤ a) (t0 : q_tag a = 3) (z1 : q_zr (a + 1) 8) (z2 : q_zr (a + 2) 8) (hl : ∀ f t, q_lkX a f = some t → (va_up (va_up (fun _ => none) 3 (some (a + 1))) 4 (some (a + 2))) f = some t) (hi : q_ik a = 0) {h : q_Hp} (n0 : h.n = a) (hz : ∀ f, h.I a f = 0) : q_Cm Φ true yX3_init cX3_init mX3_init [.ref a] h (q_ex (q_pst a 2 h)) := by
  refine q_enterM hst rfl rfl (fun _ => rfl) rfl (Nat.le_of_ble_eq_true rfl) (L := [_]) rfl ?_
  have m0 : q_mid a h h (fun _ => none) := q_mid.start n0 hz
  refine q_aload_n dX3_init_0 rfl ?_
  refine q_oinit kX3_3 dX3_init_1 (by decide) (by decide) ?_
  refine q_aload_n dX3_init_4 rfl ?_
  refine q_iconst (v := nI 0) dX3_init_5 (by decide) ?_
  refine pIX3_9 dX3_init_6 t0 a1 (by omega) ?_
  have m1 := m0.setI (f := 0)
  have n1 : (h.setI a 0 (nI 0)).n = a := n0
  generalize h.setI a 0 (nI 0) = h1 at m1 n1 ⊢
  refine q_aload_n dX3_init_9 rfl ?_
  refine q_iconst (v := nI 0) dX3_init_10 (by decide) ?_
  refine pIX3_15 dX3_init_11 t0 a1 (by omega) ?_
  have m2 := m1.setI (f := 1)
  have n2 : (h1.setI a 1 (nI 0)).n = a := n1
  generalize h1.setI a 1 (nI 0) = h2 at m2 n2 ⊢
  refine q_aload_n dX3_init_14 rfl ?_
  refine q_iconst (v := nI 0) dX3_init_15 (by decide) ?_
  refine pIX3_18 dX3_init_16 t0 a1 (by omega) ?_
  have m3 := m2.setI (f := 2)
  have n3 : (h2.setI a 2 (nI 0)).n = a := n2
  generalize h2.setI a 2 (nI 0) = h3 at m3 n3 ⊢
  refine q_aload_n dX3_init_19 rfl ?_
  refine q_bipush (v := nI 8) dX3_init_20 (by decide) ?_
  have e3 : h3.n + 1 = a + 1 := by rw [n3]
  refine q_newI (n := 8) (kc := 1) (ks := 8) (by rw [e3]; exact z1.1) (by rw [e3]; exact z1.2.1) (by decide) dX3_init_22 rfl rfl ?_
  rw [e3]
  have m4 := m3.arr (by rw [e3]; exact z1.2.2.1) (by rw [e3]; exact z1.2.2.2)
  have n4 : (h3.grow).n = a + 1 := e3
  generalize h3.grow = h4 at m4 n4 ⊢
  refine pFX3_21 dX3_init_24 rfl t0 a1 (by omega) ?_
  have m5 := m4.setR (f := 3) (t := a + 1)
  have n5 : (h4.setR a 3 (some (a + 1))).n = a + 1 := n4
  generalize h4.setR a 3 (some (a + 1)) = h5 at m5 n5 ⊢
  refine q_aload_n dX3_init_27 rfl ?_
  refine q_bipush (v := nI 8) dX3_init_28 (by decide) ?_
  have e5 : h5.n + 1 = a + 2 := by rw [n5]
  refine q_newI (n := 8) (kc := 0) (ks := 0) (by rw [e5]; exact z2.1) (by rw [e5]; exact z2.2.1) (by decide) dX3_init_30 rfl rfl ?_
  rw [e5]
  have m6 := m5.arr (by rw [e5]; exact z2.2.2.1) (by rw [e5]; exact z2.2.2.2)
  have n6 : (h5.grow).n = a + 2 := e5
  generalize h5.grow = h6 at m6 n6 ⊢
  refine pFX3_25 dX3_init_32 rfl t0 a1 (by omega) ?_
  have m7 := m6.setR (f := 4) (t := a + 2)
  have n7 : (h6.setR a 4 (some (a + 2))).n = a + 2 := n6
  generalize h6.setR a 4 (some (a + 2)) = h7 at m7 n7 ⊢
  refine q_vretM dX3_init_35 rfl (Or.inr rfl) ?_
  exact ⟨none, rfl, m7.fin (K := 2) n7 hl hi⟩
theorem g_X6_init {Φ : q_Fx} (hst : Φ.l.stackTraces = false) {a : Nat} (a1 : 1 ≤ a) (t0 : q_tag a = 6) (z1 : q_zr (a + 1) 10) (z2 : q_zr (a + 2) 10) (hl : ∀ f t, q_lkX a f = some t → (va_up (va_up (fun _ => none) 0 (some (a + 1))) 1 (some (a + 2))) f = some t) (hi : q_ik a = 0) {h : q_Hp} (n0 : h.n = a) (hz : ∀ f, h.I a f = 0) : q_Cm Φ true yX6_init cX6_init mX6_init [.ref a] h (q_ex (q_pst a 2 h)) := by
  refine q_enterM hst rfl rfl (fun _ => rfl) rfl (Nat.le_of_ble_eq_true rfl) (L := [_]) rfl ?_
  have m0 : q_mid a h h (fun _ => none) := q_mid.start n0 hz
  refine q_aload_n dX6_init_0 rfl ?_
  refine q_oinit kX6_3 dX6_init_1 (by decide) (by decide) ?_
  refine q_aload_n dX6_init_4 rfl ?_
  refine q_bipush (v := nI 10) dX6_init_5 (by decide) ?_
  have e0 : h.n + 1 = a + 1 := by rw [n0]
  refine q_newI (n := 10) (kc := 1) (ks := 10) (by rw [e0]; exact z1.1) (by rw [e0]; exact z1.2.1) (by decide) dX6_init_7 rfl rfl ?_
  rw [e0]
  have m1 := m0.arr (by rw [e0]; exact z1.2.2.1) (by rw [e0]; exact z1.2.2.2)
  have n1 : (h.grow).n = a + 1 := e0
  generalize h.grow = h1 at m1 n1 ⊢
  refine pFX6_9 dX6_init_9 rfl t0 a1 (by omega) ?_
  have m2 := m1.setR (f := 0) (t := a + 1)
  have n2 : (h1.setR a 0 (some (a + 1))).n = a + 1 := n1
  generalize h1.setR a 0 (some (a + 1)) = h2 at m2 n2 ⊢
  refine q_aload_n dX6_init_12 rfl ?_
  refine q_bipush (v := nI 10) dX6_init_13 (by decide) ?_
  have e2 : h2.n + 1 = a + 2 := by rw [n2]
  refine q_newI (n := 10) (kc := 0) (ks := 0) (by rw [e2]; exact z2.1) (by rw [e2]; exact z2.2.1) (by decide) dX6_init_15 rfl rfl ?_
  rw [e2]
  have m3 := m2.arr (by rw [e2]; exact z2.2.2.1) (by rw [e2]; exact z2.2.2.2)
  have n3 : (h2.grow).n = a + 2 := e2
  generalize h2.grow = h3 at m3 n3 ⊢
  refine pFX6_15 dX6_init_17 rfl t0 a1 (by omega) ?_
  have m4 := m3.setR (f := 1) (t := a + 2)
  have n4 : (h3.setR a 1 (some (a + 2))).n = a + 2 := n3
  generalize h3.setR a 1 (some (a + 2)) = h4 at m4 n4 ⊢
  refine q_aload_n dX6_init_20 rfl ?_
  refine q_iconst (v := nI 0) dX6_init_21 (by decide) ?_
  refine pIX6_18 dX6_init_22 t0 a1 (by omega) ?_
  have m5 := m4.setI (f := 2)
  have n5 : (h4.setI a 2 (nI 0)).n = a + 2 := n4
  generalize h4.setI a 2 (nI 0) = h5 at m5 n5 ⊢
  refine q_vretM dX6_init_25 rfl (Or.inr rfl) ?_
  exact ⟨none, rfl, m5.fin (K := 2) n5 hl hi⟩
theorem g_X7_init {Φ : q_Fx} (hst : Φ.l.stackTraces = false) {a : Nat} (a1 : 1 ≤ a) (t0 : q_tag a = 7) (z1 : q_zr (a + 1) 200) (z2 : q_zr (a + 2) 200) (hl : ∀ f t, q_lkX a f = some t → (va_up (va_up (fun _ => none) 0 (some (a + 1))) 1 (some (a + 2))) f = some t) (hi : q_ik a = 0) {h : q_Hp} (n0 : h.n = a) (hz : ∀ f, h.I a f = 0) : q_Cm Φ true yX7_init cX7_init mX7_init [.ref a] h (q_ex (q_pst a 2 h)) := by
  refine q_enterM hst rfl rfl (fun _ => rfl) rfl (Nat.le_of_ble_eq_true rfl) (L := [_]) rfl ?_
  have m0 : q_mid a h h (fun _ => none) := q_mid.start n0 hz
  refine q_aload_n dX7_init_0 rfl ?_
  refine q_oinit kX7_3 dX7_init_1 (by decide) (by decide) ?_
  refine q_aload_n dX7_init_4 rfl ?_
  refine q_sipush (v := nI 200) dX7_init_5 (by decide) ?_
  have e0 : h.n + 1 = a + 1 := by rw [n0]
  refine q_newI (n := 200) (kc := 1) (ks := 200) (by rw [e0]; exact z1.1) (by rw [e0]; exact z1.2.1) (by decide) dX7_init_8 rfl rfl ?_
  rw [e0]
  have m1 := m0.arr (by rw [e0]; exact z1.2.2.1) (by rw [e0]; exact z1.2.2.2)
  have n1 : (h.grow).n = a + 1 := e0
  generalize h.grow = h1 at m1 n1 ⊢
  refine pFX7_9 dX7_init_10 rfl t0 a1 (by omega) ?_
  have m2 := m1.setR (f := 0) (t := a + 1)
  have n2 : (h1.setR a 0 (some (a + 1))).n = a + 1 := n1
  generalize h1.setR a 0 (some (a + 1)) = h2 at m2 n2 ⊢
  refine q_aload_n dX7_init_13 rfl ?_
  refine q_sipush (v := nI 200) dX7_init_14 (by decide) ?_
  have e2 : h2.n + 1 = a + 2 := by rw [n2]
  refine q_newI (n := 200) (kc := 0) (ks := 0) (by rw [e2]; exact z2.1) (by rw [e2]; exact z2.2.1) (by decide) dX7_init_17 rfl rfl ?_
  rw [e2]
  have m3 := m2.arr (by rw [e2]; exact z2.2.2.1) (by rw [e2]; exact z2.2.2.2)
  have n3 : (h2.grow).n = a + 2 := e2
  generalize h2.grow = h3 at m3 n3 ⊢
  refine pFX7_15 dX7_init_19 rfl t0 a1 (by omega) ?_
  have m4 := m3.setR (f := 1) (t := a + 2)
  have n4 : (h3.setR a 1 (some (a + 2))).n = a + 2 := n3
  generalize h3.setR a 1 (some (a + 2)) = h4 at m4 n4 ⊢
  refine q_aload_n dX7_init_22 rfl ?_
  refine q_iconst (v := nI 0) dX7_init_23 (by decide) ?_
  refine pIX7_18 dX7_init_24 t0 a1 (by omega) ?_
  have m5 := m4.setI (f := 2)
  have n5 : (h4.setI a 2 (nI 0)).n = a + 2 := n4
  generalize h4.setI a 2 (nI 0) = h5 at m5 n5 ⊢
  refine q_vretM dX7_init_27 rfl (Or.inr rfl) ?_
  exact ⟨none, rfl, m5.fin (K := 2) n5 hl hi⟩
theorem g_X2_init {Φ : q_Fx} (hst : Φ.l.stackTraces = false) {a : Nat} (a1 : 1 ≤ a) (t0 : q_tag a = 2) (z1 : q_zr (a + 1) 28) (hl : ∀ f t, q_lkX a f = some t → (va_up (fun _ => none) 3 (some (a + 1))) f = some t) (hi : q_ik a = 0) {h : q_Hp} (n0 : h.n = a) (hz : ∀ f, h.I a f = 0) : q_Cm Φ true yX2_init cX2_init mX2_init [.ref a] h (q_ex (q_pst a 1 h)) := by
  refine q_enterM hst rfl rfl (fun _ => rfl) rfl (Nat.le_of_ble_eq_true rfl) (L := [_]) rfl ?_
  have m0 : q_mid a h h (fun _ => none) := q_mid.start n0 hz
  refine q_aload_n dX2_init_0 rfl ?_
  refine q_oinit kX2_3 dX2_init_1 (by decide) (by decide) ?_
  refine q_aload_n dX2_init_4 rfl ?_
  refine q_iconst (v := nI 0) dX2_init_5 (by decide) ?_
  refine pIX2_9 dX2_init_6 (Or.inl rfl) t0 a1 (by omega) ?_
  have m1 := m0.setI (f := 0)
  have n1 : (h.setI a 0 (nI 0)).n = a := n0
  generalize h.setI a 0 (nI 0) = h1 at m1 n1 ⊢
  refine q_aload_n dX2_init_9 rfl ?_
  refine q_iconst (v := nI 0) dX2_init_10 (by decide) ?_
  refine pIX2_15 dX2_init_11 t0 a1 (by omega) ?_
  have m2 := m1.setI (f := 1)
  have n2 : (h1.setI a 1 (nI 0)).n = a := n1
  generalize h1.setI a 1 (nI 0) = h2 at m2 n2 ⊢
  refine q_aload_n dX2_init_14 rfl ?_
  refine q_iconst (v := nI 0) dX2_init_15 (by decide) ?_
  refine pIX2_19 dX2_init_16 t0 a1 (by omega) ?_
  have m3 := m2.setI (f := 2)
  have n3 : (h2.setI a 2 (nI 0)).n = a := n2
  generalize h2.setI a 2 (nI 0) = h3 at m3 n3 ⊢
  refine q_aload_n dX2_init_19 rfl ?_
  refine q_bipush (v := nI 28) dX2_init_20 (by decide) ?_
  have e3 : h3.n + 1 = a + 1 := by rw [n3]
  refine q_newI (n := 28) (kc := 0) (ks := 0) (by rw [e3]; exact z1.1) (by rw [e3]; exact z1.2.1) (by decide) dX2_init_22 rfl rfl ?_
  rw [e3]
  have m4 := m3.arr (by rw [e3]; exact z1.2.2.1) (by rw [e3]; exact z1.2.2.2)
  have n4 : (h3.grow).n = a + 1 := e3
  generalize h3.grow = h4 at m4 n4 ⊢
  refine pFX2_22 dX2_init_24 rfl t0 a1 (by omega) ?_
  have m5 := m4.setR (f := 3) (t := a + 1)
  have n5 : (h4.setR a 3 (some (a + 1))).n = a + 1 := n4
  generalize h4.setR a 3 (some (a + 1)) = h5 at m5 n5 ⊢
  refine q_vretM dX2_init_27 rfl (Or.inr rfl) ?_
  exact ⟨none, rfl, m5.fin (K := 1) n5 hl hi⟩
theorem g_X0_init {Φ : q_Fx} (hst : Φ.l.stackTraces = false) {a : Nat} (a1 : 1 ≤ a) (t0 : q_tag a = 0)  (hl : ∀ f t, q_lkX a f = some t → (fun _ => none) f = some t) (hi : q_ik a = 0) {h : q_Hp} (n0 : h.n = a) (hz : ∀ f, h.I a f = 0) : q_Cm Φ true yX0_init cX0_init mX0_init [.ref a] h (q_ex (q_pst a 0 h)) := by
  refine q_enterM hst rfl rfl (fun _ => rfl) rfl (Nat.le_of_ble_eq_true rfl) (L := [_]) rfl ?_
  have m0 : q_mid a h h (fun _ => none) := q_mid.start n0 hz
  refine q_aload_n dX0_init_0 rfl ?_
  refine q_oinit kX0_3 dX0_init_1 (by decide) (by decide) ?_
  refine q_aload_n dX0_init_4 rfl ?_
  refine q_iconst (v := nI 0) dX0_init_5 (by decide) ?_
  refine pIX0_9 dX0_init_6 t0 a1 (by omega) ?_
  have m1 := m0.setI (f := 0)
  have n1 : (h.setI a 0 (nI 0)).n = a := n0
  generalize h.setI a 0 (nI 0) = h1 at m1 n1 ⊢
  refine q_aload_n dX0_init_9 rfl ?_
  refine q_iconst (v := nI 0) dX0_init_10 (by decide) ?_
  refine pIX0_15 dX0_init_11 t0 a1 (by omega) ?_
  have m2 := m1.setI (f := 1)
  have n2 : (h1.setI a 1 (nI 0)).n = a := n1
  generalize h1.setI a 1 (nI 0) = h2 at m2 n2 ⊢
  refine q_aload_n dX0_init_14 rfl ?_
  refine q_iconst (v := nI 0) dX0_init_15 (by decide) ?_
  refine pIX0_18 dX0_init_16 t0 a1 (by omega) ?_
  have m3 := m2.setI (f := 2)
  have n3 : (h2.setI a 2 (nI 0)).n = a := n2
  generalize h2.setI a 2 (nI 0) = h3 at m3 n3 ⊢
  refine q_vretM dX0_init_19 rfl (Or.inr rfl) ?_
  exact ⟨none, rfl, m3.fin (K := 0) n3 hl hi⟩
theorem g_X8_init {Φ : q_Fx} (hst : Φ.l.stackTraces = false) {B : Nat} (hB : q_bk B) {h : q_Hp} (n0 : h.n = B + 4) (hz : ∀ f, h.I (B + 4) f = 0) : q_Cm Φ true yX8_init cX8_init mX8_init [.ref (B + 4)] h (q_ex (q_pst (B + 4) 2 h)) := by
  have a1 : 1 ≤ B + 4 := by omega
  have t0 : q_tag (B + 4) = 8 := (q_tgb hB (r := 4) (by decide)).trans rfl
  have t5 : q_tag (B + 5) = 12 := (q_tgb hB (r := 5) (by decide)).trans rfl
  have t6 : q_tag (B + 6) = 12 := (q_tgb hB (r := 6) (by decide)).trans rfl
  refine q_enterM hst rfl rfl (fun _ => rfl) rfl (Nat.le_of_ble_eq_true rfl) (L := [_]) rfl ?_
  have m0 : q_mid (B + 4) h h (fun _ => none) := q_mid.start n0 hz
  refine q_aload_n dX8_init_0 rfl ?_
  refine q_oinit kX8_3 dX8_init_1 (by decide) (by decide) ?_
  refine q_aload_n dX8_init_4 rfl ?_
  have e0 : h.n + 1 = B + 5 := by rw [n0]
  refine q_clone (nm := "FIRST_BOUNDS") (f := q_fb) (kc := 1) (ks := 6) (fun h => h.2.2.2.2.2.2.2.1) (by decide +kernel) (by rw [e0]; exact t5) (by rw [e0]; exact (q_lnb hB (r := 5) (by decide)).trans rfl) dX8_init_5 dX8_init_8 (by decide) (Nat.le_of_ble_eq_true rfl) rfl rfl ?_
  have m1 := m0.row (g := fun k => q_fb.getD k 0) (by rw [e0]; exact q_lkXr hB (r := 5) (by decide) rfl) (fun f => by rw [e0]; unfold q_i0; rw [(q_ikb hB (r := 5) (by decide)).trans (show q_ikS 5 = 1 from rfl), if_pos rfl])
  have n1 : (h.grow.rowI (h.n + 1) (fun k => q_fb.getD k 0)).n = B + 5 := e0
  rw [e0] at m1 n1 ⊢
  generalize h.grow.rowI (B + 5) (fun k => q_fb.getD k 0) = h1 at m1 n1 ⊢
  refine q_castI q_kCl.2.2.2.2.2.2 t5 (by omega) (by omega) dX8_init_11 ?_
  refine pFX8_18 dX8_init_14 rfl t0 a1 (by omega) ?_
  have m2 := m1.setR (f := 0) (t := B + 5)
  have n2 : (h1.setR (B + 4) 0 (some (B + 5))).n = B + 5 := n1
  generalize h1.setR (B + 4) 0 (some (B + 5)) = h2 at m2 n2 ⊢
  refine q_aload_n dX8_init_17 rfl ?_
  have e2 : h2.n + 1 = B + 6 := by rw [n2]
  refine q_clone (nm := "FIRST_WEIGHTS") (f := q_fw) (kc := 0) (ks := 0) (fun h => h.2.2.2.2.2.2.2.2.1) (by decide +kernel) (by rw [e2]; exact t6) (by rw [e2]; exact (q_lnb hB (r := 6) (by decide)).trans rfl) dX8_init_18 dX8_init_21 (by decide) (Nat.le_of_ble_eq_true rfl) rfl rfl ?_
  have m3 := m2.row (g := fun k => q_fw.getD k 0) (by rw [e2]; exact q_lkXr hB (r := 6) (by decide) rfl) (fun f => by rw [e2]; unfold q_i0; rw [(q_ikb hB (r := 6) (by decide)).trans (show q_ikS 6 = 2 from rfl), if_neg (by decide), if_pos rfl])
  have n3 : (h2.grow.rowI (h2.n + 1) (fun k => q_fw.getD k 0)).n = B + 6 := e2
  rw [e2] at m3 n3 ⊢
  generalize h2.grow.rowI (B + 6) (fun k => q_fw.getD k 0) = h3 at m3 n3 ⊢
  refine q_castI q_kCl.2.2.2.2.2.2 t6 (by omega) (by omega) dX8_init_24 ?_
  refine pFX8_26 dX8_init_27 rfl t0 a1 (by omega) ?_
  have m4 := m3.setR (f := 1) (t := B + 6)
  have n4 : (h3.setR (B + 4) 1 (some (B + 6))).n = B + 6 := n3
  generalize h3.setR (B + 4) 1 (some (B + 6)) = h4 at m4 n4 ⊢
  refine q_vretM dX8_init_30 rfl (Or.inr rfl) ?_
  exact ⟨none, rfl, m4.fin (K := 2) n4 (q_lk4 hB) ((q_ikb hB (r := 4) (by decide)).trans rfl)⟩
theorem l_X4_init {Φ : q_Fx} (hst : Φ.l.stackTraces = false) {B : Nat} (hB : q_bk B) {h0 : q_Hp} : ∀ n i h, i + n = 40 → q_mid2 (B + 7) (B + 8) h0 h (va_up (fun _ => none) 0 (some (B + 8))) (fun _ => 0) (q_Gs (B + 9) 3 i) → h.n = B + 8 + 3 * i → q_G Φ true cX4_init yX4_init.cls mX4_init (q_Zm Φ true mX4_init (q_ex (q_pst (B + 7) 121 h0))) 25 [some (.ref (B + 7)), some (.int (nI i))] [] h (3 * n) (21 * n) := by
  have a1 : 1 ≤ B + 7 := by omega
  have t0 : q_tag (B + 7) = 4 := (q_tgb hB (r := 7) (by decide)).trans rfl
  have t8 : q_tag (B + 8) = 13 := (q_tgb hB (r := 8) (by decide)).trans rfl
  intro n
  induction n with
  | zero =>
    intro i h hi m n0
    have hi : i = 40 := by omega
    subst hi
    refine q_iload_n dX4_init_25 rfl ?_
    refine q_bipush (v := nI 40) dX4_init_26 (by decide) ?_
    refine q_icmp_geN (tgt := 50) (by decide) (by decide) dX4_init_28 rfl (fun _ => ?_) (fun c => absurd c (by decide))
    refine q_vretM dX4_init_50 rfl (Or.inr rfl) ?_
    refine ⟨none, rfl, m.fin (K := 121) (by omega) (q_lk7 hB) ((q_ikb hB (r := 7) (by decide)).trans rfl) (fun f t e => ?_) (fun f => by rw [q_i00 ((q_ikb hB (r := 8) (by decide)).trans rfl)])⟩
    rw [q_lkX8 hB] at e
    exact e
  | succ n ih =>
    intro i h hi m n0
    have hi4 : i < 40 := by omega
    refine q_iload_n dX4_init_25 rfl ?_
    refine q_bipush (v := nI 40) dX4_init_26 (by decide) ?_
    refine q_icmp_geN (tgt := 50) (by omega) (by decide) dX4_init_28 rfl (fun c => absurd c (by omega)) (fun _ => ?_)
    refine q_aload_n dX4_init_31 rfl ?_
    refine fRX4_11 dX4_init_32 t0 a1 (by omega) (m.2.2.2.2.2.1 0 (B + 8) rfl) ?_
    refine q_rfS ?_
    refine q_iload_n dX4_init_35 rfl ?_
    have e : h.n + 1 = B + 9 + 3 * i := by omega
    obtain ⟨s1, s2, s3, s4, s5⟩ := q_ses hB hi4
    refine q_new (ci := 3) (kc := 3 * n + 2) (ks := 21 * n + 16) tyX3 tyX3_ok rfl q_in3 rfl q_df3 (by rw [e]; exact s1) ⟨(by decide +kernel), q_ii3⟩ dX4_init_36 rfl rfl ?_
    rw [e]
    refine q_dup dX4_init_39 rfl ?_
    refine q_ctorN (kc := 3 * n) (ks := 21 * n) (g_X3_init hst (a := B + 9 + 3 * i) (by omega) s1 s2 s3 s4 s5 (h := h.grow) (n0 := e) (hz := fun f => by rw [← e, q_Hp.grow_I'])) wX3_init knX4_24 iX3_init rfl rfl (by decide) (Nat.le_of_ble_eq_true rfl) dX4_init_40 rfl rfl (fun x q => ?_) q_pst.v
    obtain ⟨m1, y1⟩ := m.call (K := 2) (by rw [e]; exact q)
    refine q_aastN (t0 := 2) (r := (RX3, TX3, 5)) (len := 40) (by rw [t8]; decide) (by rw [t8]; decide) (by rw [t8]; rfl) s1 rfl dX4_init_43 (by omega) (by omega) (by omega) (by omega) ((q_lnb hB (r := 8) (by decide)).trans rfl) hi4 (by decide) ?_
    have m2 := m1.putR (f := i) (t := B + 9 + 3 * i)
    have n2 : (x.setR (B + 8) i (some (B + 9 + 3 * i))).n = B + 8 + 3 * (i + 1) := by show x.n = _; omega
    rw [q_Gs_s] at m2
    refine q_iincN (n := 1) (L' := [_, _]) (by decide) dX4_init_44 rfl rfl (by decide) rfl ?_
    refine q_goto (tgt := 25) dX4_init_47 rfl ?_
    exact ih (i + 1) _ (by omega) m2 n2
theorem g_X4_init {Φ : q_Fx} (hst : Φ.l.stackTraces = false) {B : Nat} (hB : q_bk B) {h : q_Hp} (n0 : h.n = B + 7) (hz : ∀ f, h.I (B + 7) f = 0) : q_Cm Φ true yX4_init cX4_init mX4_init [.ref (B + 7)] h (q_ex (q_pst (B + 7) 121 h)) := by
  have a1 : 1 ≤ B + 7 := by omega
  have t0 : q_tag (B + 7) = 4 := (q_tgb hB (r := 7) (by decide)).trans rfl
  have t8 : q_tag (B + 8) = 13 := (q_tgb hB (r := 8) (by decide)).trans rfl
  refine q_enterM hst rfl rfl (fun _ => rfl) rfl (Nat.le_of_ble_eq_true rfl) (L := [_, none]) rfl ?_
  have m0 : q_mid (B + 7) h h (fun _ => none) := q_mid.start n0 hz
  refine q_aload_n dX4_init_0 rfl ?_
  refine q_oinit kX4_3 dX4_init_1 (by decide) (by decide) ?_
  refine q_aload_n dX4_init_4 rfl ?_
  refine q_bipush (v := nI 40) dX4_init_5 (by decide) ?_
  have e0 : h.n + 1 = B + 8 := by rw [n0]
  refine q_newQ (t0 := 2) (n := 40) (index := 9) (C := RX3) (kc := 120) (ks := 840) (by rw [e0, t8]; rfl) (by rw [e0, t8]; decide) (by rw [e0, t8]; decide) (by rw [e0]; exact (q_lnb hB (r := 8) (by decide)).trans rfl) (by decide +kernel) (fun h => h.2.2.2.2.1) (by decide) dX4_init_7 rfl rfl ?_
  have m1 := m0.arr2
  have n1 : h.grow.n = B + 8 := e0
  rw [e0] at m1 ⊢
  generalize h.grow = h1 at m1 n1 ⊢
  refine pFX4_11 dX4_init_10 rfl t0 a1 (by omega) ?_
  have m2 := m1.setR (f := 0) (t := B + 8)
  have n2 : (h1.setR (B + 7) 0 (some (B + 8))).n = B + 8 := n1
  generalize h1.setR (B + 7) 0 (some (B + 8)) = h2 at m2 n2 ⊢
  refine q_aload_n dX4_init_13 rfl ?_
  refine q_iconst (v := nI 0) dX4_init_14 (by decide) ?_
  refine pIX4_17 dX4_init_15 t0 a1 (by omega) ?_
  have m3 := m2.setI (f := 1)
  have n3 : (h2.setI (B + 7) 1 (nI 0)).n = B + 8 := n2
  generalize h2.setI (B + 7) 1 (nI 0) = h3 at m3 n3 ⊢
  refine q_aload_n dX4_init_18 rfl ?_
  refine q_iconst (v := nI 0) dX4_init_19 (by decide) ?_
  refine pIX4_21 dX4_init_20 t0 a1 (by omega) ?_
  have m4 := m3.setI (f := 2)
  have n4 : (h3.setI (B + 7) 2 (nI 0)).n = B + 8 := n3
  generalize h3.setI (B + 7) 2 (nI 0) = h4 at m4 n4 ⊢
  refine q_iconst (v := nI 0) dX4_init_23 (by decide) ?_
  refine q_istore_n (L' := [_, _]) dX4_init_24 rfl (by decide) rfl ?_
  exact l_X4_init hst hB 40 0 h4 (by omega) (by rw [q_Gs_0]; exact m4) n4
theorem g_X5_init {Φ : q_Fx} (hst : Φ.l.stackTraces = false) {B : Nat} (hB : q_bk B) {h : q_Hp} (n0 : h.n = B) (hz : ∀ f, h.I B f = 0) : q_Cm Φ true yX5_init cX5_init mX5_init [.ref B] h (q_ex (q_pst B 130 h)) := by
  have a1 : 1 ≤ B := q_bk1 hB
  have t0 : q_tag B = 5 := (q_tgb hB (r := 0) (by decide)).trans rfl
  refine q_enterM hst rfl rfl (fun _ => rfl) rfl (Nat.le_of_ble_eq_true rfl) (L := [_]) rfl ?_
  have m0 : q_mid B h h (fun _ => none) := q_mid.start n0 hz
  refine q_aload_n dX5_init_0 rfl ?_
  refine q_oinit kX5_1 dX5_init_1 (by decide) (by decide) ?_
  refine q_aload_n dX5_init_4 rfl ?_
  refine q_iconst (v := nI 0) dX5_init_5 (by decide) ?_
  refine pIX5_7 dX5_init_6 t0 a1 (by omega) ?_
  have m1 := m0.setI (f := 0)
  have n1 : (h.setI B 0 (nI 0)).n = B := n0
  generalize h.setI B 0 (nI 0) = h1 at m1 n1 ⊢
  refine q_aload_n dX5_init_9 rfl ?_
  have e1 : h1.n + 1 = B + 1 := by rw [n1]
  refine q_new (ci := 6) (kc := 129) (ks := 949) tyX6 tyX6_ok rfl q_in6 rfl q_df6 (by rw [e1]; exact ((q_tgb hB (r := 1) (by decide)).trans rfl)) ⟨q_W0_mem (List.mem_of_getElem? (i := 45) (by decide +kernel)) (by decide +kernel), q_ii6⟩ dX5_init_10 rfl rfl ?_
  rw [e1]
  refine q_dup dX5_init_13 rfl ?_
  refine q_ctorN (kc := 127) (ks := 929) (g_X6_init hst (a := B + 1) (by omega) ((q_tgb hB (r := 1) (by decide)).trans rfl) (q_zrb hB (r := 2) (by decide) rfl rfl rfl) (q_zrb hB (r := 3) (by decide) rfl rfl rfl) (q_lk1 hB) ((q_ikb hB (r := 1) (by decide)).trans rfl) (h := h1.grow) (n0 := e1) (hz := fun f => by rw [← e1, q_Hp.grow_I'])) wX6_init knX5_15 iX6_init rfl rfl (by decide) (Nat.le_of_ble_eq_true rfl) dX5_init_14 rfl rfl (fun x2 q2 => ?_) q_pst.v
  obtain ⟨m2, y2⟩ := m1.call (K := 2) (by rw [e1]; exact q2)
  have n2 : x2.n = B + 3 := by omega
  refine pFX5_16 dX5_init_17 rfl t0 a1 (by omega) ?_
  have m3 := m2.setR (f := 1) (t := B + 1)
  have n3 : (x2.setR B 1 (some (B + 1))).n = B + 3 := n2
  generalize x2.setR B 1 (some (B + 1)) = h3 at m3 n3 ⊢
  refine q_aload_n dX5_init_20 rfl ?_
  have e3 : h3.n + 1 = B + 4 := by rw [n3]
  refine q_new (ci := 8) (kc := 126) (ks := 927) tyX8 tyX8_ok rfl q_in8 rfl q_df8 (by rw [e3]; exact ((q_tgb hB (r := 4) (by decide)).trans rfl)) ⟨q_W0_mem (List.mem_of_getElem? (i := 64) (by decide +kernel)) (by decide +kernel), q_ii8⟩ dX5_init_21 rfl rfl ?_
  rw [e3]
  refine q_dup dX5_init_24 rfl ?_
  refine q_ctorN (kc := 124) (ks := 915) (g_X8_init hst hB (h := h3.grow) (n0 := e3) (hz := fun f => by rw [← e3, q_Hp.grow_I'])) wX8_init knX5_22 iX8_init rfl rfl (by decide) (Nat.le_of_ble_eq_true rfl) dX5_init_25 rfl rfl (fun x4 q4 => ?_) q_pst.v
  obtain ⟨m4, y4⟩ := m3.call (K := 2) (by rw [e3]; exact q4)
  have n4 : x4.n = B + 6 := by omega
  refine pFX5_23 dX5_init_28 rfl t0 a1 (by omega) ?_
  have m5 := m4.setR (f := 2) (t := B + 4)
  have n5 : (x4.setR B 2 (some (B + 4))).n = B + 6 := n4
  generalize x4.setR B 2 (some (B + 4)) = h5 at m5 n5 ⊢
  refine q_aload_n dX5_init_31 rfl ?_
  have e5 : h5.n + 1 = B + 7 := by rw [n5]
  refine q_new (ci := 4) (kc := 123) (ks := 912) tyX4 tyX4_ok rfl q_in4 rfl q_df4 (by rw [e5]; exact ((q_tgb hB (r := 7) (by decide)).trans rfl)) ⟨q_W0_mem (List.mem_of_getElem? (i := 91) (by decide +kernel)) (by decide +kernel), q_ii4⟩ dX5_init_32 rfl rfl ?_
  rw [e5]
  refine q_dup dX5_init_35 rfl ?_
  refine q_ctor (kc := 2) (ks := 32) (g_X4_init hst hB (h := h5.grow) (n0 := e5) (hz := fun f => by rw [← e5, q_Hp.grow_I'])) wX4_init kX5_29 iX4_init rfl rfl (by decide) (Nat.le_of_ble_eq_true rfl) dX5_init_36 rfl rfl (fun x6 q6 => ?_) q_pst.v
  obtain ⟨m6, y6⟩ := m5.call (K := 121) (by rw [e5]; exact q6)
  have n6 : x6.n = B + 128 := by omega
  refine pFX5_30 dX5_init_39 rfl t0 a1 (by omega) ?_
  have m7 := m6.setR (f := 3) (t := B + 7)
  have n7 : (x6.setR B 3 (some (B + 7))).n = B + 128 := n6
  generalize x6.setR B 3 (some (B + 7)) = h7 at m7 n7 ⊢
  refine q_aload_n dX5_init_42 rfl ?_
  have e7 : h7.n + 1 = B + 129 := by rw [n7]
  refine q_new (ci := 2) (kc := 1) (ks := 28) tyX2 tyX2_ok rfl q_in2 rfl q_df2 (by rw [e7]; exact ((q_tgb hB (r := 129) (by decide)).trans rfl)) ⟨q_W0_mem (List.mem_of_getElem? (i := 144) (by decide +kernel)) (by decide +kernel), q_ii2⟩ dX5_init_43 rfl rfl ?_
  rw [e7]
  refine q_dup dX5_init_46 rfl ?_
  refine q_ctorN (kc := 0) (ks := 0) (g_X2_init hst (a := B + 129) (by omega) ((q_tgb hB (r := 129) (by decide)).trans rfl) (q_zrb hB (r := 130) (by decide) rfl rfl rfl) (q_lk129 hB) ((q_ikb hB (r := 129) (by decide)).trans rfl) (h := h7.grow) (n0 := e7) (hz := fun f => by rw [← e7, q_Hp.grow_I'])) wX2_init knX5_36 iX2_init rfl rfl (by decide) (Nat.le_of_ble_eq_true rfl) dX5_init_47 rfl rfl (fun x8 q8 => ?_) q_pst.v
  obtain ⟨m8, y8⟩ := m7.call (K := 1) (by rw [e7]; exact q8)
  have n8 : x8.n = B + 130 := by omega
  refine pFX5_37 dX5_init_50 rfl t0 a1 (by omega) ?_
  have m9 := m8.setR (f := 4) (t := B + 129)
  have n9 : (x8.setR B 4 (some (B + 129))).n = B + 130 := n8
  generalize x8.setR B 4 (some (B + 129)) = h9 at m9 n9 ⊢
  refine q_vretM dX5_init_53 rfl (Or.inr rfl) ?_
  exact ⟨none, rfl, m9.fin (K := 130) n9 (q_lk0 hB) ((q_ikb hB (r := 0) (by decide)).trans rfl)⟩
theorem q_bkj {i : Nat} (hi : i < 6) : q_bk (135 + 131 * i) := Or.inr (Or.inr ⟨i, hi, rfl⟩)
theorem q_lk133 : ∀ f t, q_lkX 133 f = some t → va_up (fun _ => none) 0 (some 134) f = some t := by
  intro f t e
  have e : (if f = 0 then some 134 else none) = some t := e
  exact e
theorem l_X1_init {Φ : q_Fx} (hst : Φ.l.stackTraces = false) {h0 : q_Hp} : ∀ n i h, i + n = 6 → q_mid2 133 134 h0 h (va_up (fun _ => none) 0 (some 134)) (fun _ => 0) (q_Gs 135 131 i) → h.n = 134 + 131 * i → q_G Φ true cX1_init yX1_init.cls mX1_init (q_Zm Φ true mX1_init (q_ex (q_pst 133 787 h0))) 25 [some (.ref 133), some (.int (nI i))] [] h (131 * n) (957 * n) := by
  have a1 : 1 ≤ 133 := by decide
  have t0 : q_tag 133 = 1 := rfl
  intro n
  induction n with
  | zero =>
    intro i h hi m n0
    have hi : i = 6 := by omega
    subst hi
    refine q_iload_n dX1_init_25 rfl ?_
    refine q_bipush (v := nI 6) dX1_init_26 (by decide) ?_
    refine q_icmp_geN (tgt := 50) (by decide) (by decide) dX1_init_28 rfl (fun _ => ?_) (fun c => absurd c (by decide))
    refine q_vretM dX1_init_50 rfl (Or.inr rfl) ?_
    refine ⟨none, rfl, m.fin (K := 787) (by omega) q_lk133 rfl (fun f t e => ?_) (fun f => by rw [q_i00 rfl])⟩
    have e : (if f < 6 then some (135 + 131 * f) else none) = some t := e
    exact e
  | succ n ih =>
    intro i h hi m n0
    have hi4 : i < 6 := by omega
    refine q_iload_n dX1_init_25 rfl ?_
    refine q_bipush (v := nI 6) dX1_init_26 (by decide) ?_
    refine q_icmp_geN (tgt := 50) (by omega) (by decide) dX1_init_28 rfl (fun c => absurd c (by omega)) (fun _ => ?_)
    refine q_aload_n dX1_init_31 rfl ?_
    refine fRX1_11 dX1_init_32 t0 a1 (by omega) (m.2.2.2.2.2.1 0 134 rfl) ?_
    refine q_rfS ?_
    refine q_iload_n dX1_init_35 rfl ?_
    have e : h.n + 1 = 135 + 131 * i := by omega
    have s1 : q_tag (135 + 131 * i) = 5 := (q_tgb (q_bkj hi4) (r := 0) (by decide)).trans rfl
    refine q_new (ci := 5) (kc := 131 * n + 130) (ks := 957 * n + 952) tyX5 tyX5_ok rfl q_in5 rfl q_df5 (by rw [e]; exact s1) ⟨(by decide +kernel), q_ii5⟩ dX1_init_36 rfl rfl ?_
    rw [e]
    refine q_dup dX1_init_39 rfl ?_
    refine q_ctorN (kc := 131 * n) (ks := 957 * n) (g_X5_init hst (q_bkj hi4) (h := h.grow) (n0 := e) (hz := fun f => by rw [← e, q_Hp.grow_I'])) wX5_init knX1_24 iX5_init rfl rfl (by decide) (Nat.le_of_ble_eq_true rfl) dX1_init_40 rfl rfl (fun x q => ?_) q_pst.v
    obtain ⟨m1, y1⟩ := m.call (K := 130) (by rw [e]; exact q)
    refine q_aastN (t0 := 3) (r := (RX5, TX5, 5)) (len := 6) (by decide) (by decide) rfl s1 rfl dX1_init_43 (by omega) (by omega) (by omega) (by omega) rfl hi4 (by decide) ?_
    have m2 := m1.putR (f := i) (t := 135 + 131 * i)
    have n2 : (x.setR 134 i (some (135 + 131 * i))).n = 134 + 131 * (i + 1) := by show x.n = _; omega
    rw [q_Gs_s] at m2
    refine q_iincN (n := 1) (L' := [_, _]) (by decide) dX1_init_44 rfl rfl (by decide) rfl ?_
    refine q_goto (tgt := 25) dX1_init_47 rfl ?_
    exact ih (i + 1) _ (by omega) m2 n2
theorem g_X1_init {Φ : q_Fx} (hst : Φ.l.stackTraces = false) {h : q_Hp} (n0 : h.n = 133) (hz : ∀ f, h.I 133 f = 0) : q_Cm Φ true yX1_init cX1_init mX1_init [.ref 133] h (q_ex (q_pst 133 787 h)) := by
  have a1 : 1 ≤ 133 := by decide
  have t0 : q_tag 133 = 1 := rfl
  refine q_enterM hst rfl rfl (fun _ => rfl) rfl (Nat.le_of_ble_eq_true rfl) (L := [_, none]) rfl ?_
  have m0 : q_mid 133 h h (fun _ => none) := q_mid.start n0 hz
  refine q_aload_n dX1_init_0 rfl ?_
  refine q_oinit kX1_3 dX1_init_1 (by decide) (by decide) ?_
  refine q_aload_n dX1_init_4 rfl ?_
  refine q_bipush (v := nI 6) dX1_init_5 (by decide) ?_
  have e0 : h.n + 1 = 134 := by rw [n0]
  refine q_newQ (t0 := 3) (n := 6) (index := 9) (C := RX5) (kc := 786) (ks := 5742) (by rw [e0]; rfl) (by rw [e0]; decide) (by rw [e0]; decide) (by rw [e0]; rfl) (by decide +kernel) (fun h => h.2.2.2.2.2.1) (by decide) dX1_init_7 rfl rfl ?_
  have m1 := m0.arr2
  have n1 : h.grow.n = 134 := e0
  rw [e0] at m1 ⊢
  generalize h.grow = h1 at m1 n1 ⊢
  refine pFX1_11 dX1_init_10 rfl t0 a1 (by omega) ?_
  have m2 := m1.setR (f := 0) (t := 134)
  have n2 : (h1.setR 133 0 (some 134)).n = 134 := n1
  generalize h1.setR 133 0 (some 134) = h2 at m2 n2 ⊢
  refine q_aload_n dX1_init_13 rfl ?_
  refine q_iconst (v := nI 0) dX1_init_14 (by decide) ?_
  refine pIX1_17 dX1_init_15 t0 a1 (by omega) ?_
  have m3 := m2.setI (f := 1)
  have n3 : (h2.setI 133 1 (nI 0)).n = 134 := n2
  generalize h2.setI 133 1 (nI 0) = h3 at m3 n3 ⊢
  refine q_aload_n dX1_init_18 rfl ?_
  refine q_iconst (v := nI 0) dX1_init_19 (by decide) ?_
  refine pIX1_21 dX1_init_20 t0 a1 (by omega) ?_
  have m4 := m3.setI (f := 2)
  have n4 : (h3.setI 133 2 (nI 0)).n = 134 := n3
  generalize h3.setI 133 2 (nI 0) = h4 at m4 n4 ⊢
  refine q_iconst (v := nI 0) dX1_init_23 (by decide) ?_
  refine q_istore_n (L' := [_, _]) dX1_init_24 rfl (by decide) rfl ?_
  exact l_X1_init hst 6 0 h4 (by omega) (by rw [q_Gs_0]; exact m4) n4
/-! single places -/
theorem q_lknone {p : Nat} (h13 : q_tag p ≠ 13) (hp : ∀ f, q_lkT p f = none) (f : Nat) : q_lkX p f = none := by
  unfold q_lkX
  rw [if_neg h13]
  exact hp f
theorem q_zc52 : q_zc 1052 13 := ⟨rfl, rfl, q_lknone (by decide) (fun _ => rfl), rfl⟩
theorem q_z54 : q_zr 1054 200 := ⟨rfl, rfl, q_lknone (by decide) (fun _ => rfl), rfl⟩
theorem q_z55 : q_zr 1055 200 := ⟨rfl, rfl, q_lknone (by decide) (fun _ => rfl), rfl⟩
theorem q_z57 : q_zr 1057 200 := ⟨rfl, rfl, q_lknone (by decide) (fun _ => rfl), rfl⟩
theorem q_z58 : q_zr 1058 40 := ⟨rfl, rfl, q_lknone (by decide) (fun _ => rfl), rfl⟩
theorem q_z59 : q_zr 1059 6 := ⟨rfl, rfl, q_lknone (by decide) (fun _ => rfl), rfl⟩
theorem q_z60 : q_zr 1060 241 := ⟨rfl, rfl, q_lknone (by decide) (fun _ => rfl), rfl⟩
theorem q_lk53 : ∀ f t, q_lkX 1053 f = some t → va_up (va_up (fun _ => none) 0 (some (1053 + 1))) 1 (some (1053 + 2)) f = some t := by
  intro f t e
  have e : (if f = 0 then some 1054 else if f = 1 then some 1055 else none) = some t := e
  unfold va_up
  by_cases c1 : f = 1
  · subst c1; exact e
  rw [if_neg c1]
  by_cases c0 : f = 0
  · subst c0; exact e
  rw [if_neg c0, if_neg c1] at e
  cases e
theorem q_lk56 : ∀ f t, q_lkX 1056 f = some t → (fun _ => none) f = some t := by
  intro f t e
  rw [q_lknone (by decide) (fun _ => rfl)] at e
  exact e
theorem q_lkp1 : ∀ f t, q_lkX 1 f = some t → va_up (va_up (va_up (va_up (va_up (va_up (va_up (va_up (va_up (va_up (fun _ => none) 0 (some 2)) 1 (some 133)) 2 (some 921)) 4 (some 1052)) 6 (some 1053)) 7 (some 1056)) 8 (some 1057)) 9 (some 1058)) 10 (some 1059)) 11 (some 1060) f = some t := by
  intro f t e
  have e : (if f = 0 then some 2 else if f = 1 then some 133 else if f = 2 then some 921 else if f = 4 then some 1052 else if f = 6 then some 1053 else if f = 7 then some 1056 else if f = 8 then some 1057 else if f = 9 then some 1058 else if f = 10 then some 1059 else if f = 11 then some 1060 else none) = some t := e
  by_cases c : f < 12
  · have key : ∀ f, f < 12 → va_up (va_up (va_up (va_up (va_up (va_up (va_up (va_up (va_up (va_up (fun _ => none) 0 (some 2)) 1 (some 133)) 2 (some 921)) 4 (some 1052)) 6 (some 1053)) 7 (some 1056)) 8 (some 1057)) 9 (some 1058)) 10 (some 1059)) 11 (some 1060) f = (if f = 0 then some 2 else if f = 1 then some 133 else if f = 2 then some 921 else if f = 4 then some 1052 else if f = 6 then some 1053 else if f = 7 then some 1056 else if f = 8 then some 1057 else if f = 9 then some 1058 else if f = 10 then some 1059 else if f = 11 then some 1060 else none) := by decide +kernel
    exact (key f c).trans e
  · rw [if_neg (by omega), if_neg (by omega), if_neg (by omega), if_neg (by omega), if_neg (by omega), if_neg (by omega), if_neg (by omega), if_neg (by omega), if_neg (by omega), if_neg (by omega)] at e
    cases e
theorem g_X9_init {Φ : q_Fx} (hst : Φ.l.stackTraces = false) {h : q_Hp} (n0 : h.n = 1) (hz : ∀ f, h.I 1 f = 0) : q_Cm Φ true yX9_init cX9_init mX9_init [.ref 1] h (q_ex (q_pst 1 1059 h)) := by
  have a1 : 1 ≤ 1 := Nat.le_refl 1
  have t0 : q_tag 1 = 9 := rfl
  refine q_enterM hst rfl rfl (fun _ => rfl) rfl (Nat.le_of_ble_eq_true rfl) (L := [_]) rfl ?_
  have m0 : q_mid 1 h h (fun _ => none) := q_mid.start n0 hz
  refine q_aload_n dX9_init_0 rfl ?_
  refine q_oinit kX9_3 dX9_init_1 (by decide) (by decide) ?_
  refine q_aload_n dX9_init_4 rfl ?_
  have e0 : h.n + 1 = 2 := by rw [n0]
  refine q_new (ci := 5) (kc := 1058) (ks := 8566) tyX5 tyX5_ok rfl q_in5 rfl q_df5 (by rw [e0]; exact rfl) ⟨q_W0_mem (List.mem_of_getElem? (i := 39) (by decide +kernel)) (by decide +kernel), q_ii5⟩ dX9_init_5 rfl rfl ?_
  rw [e0]
  refine q_dup dX9_init_8 rfl ?_
  refine q_ctorN (kc := 928) (ks := 7614) (g_X5_init hst (B := 2) (Or.inl rfl) (h := h.grow) (n0 := e0) (hz := fun f => by rw [← e0, q_Hp.grow_I'])) wX5_init knX9_11 iX5_init rfl rfl (by decide) (Nat.le_of_ble_eq_true rfl) dX9_init_9 rfl rfl (fun x1 q1 => ?_) q_pst.v
  obtain ⟨m1, y1⟩ := m0.call (K := 130) (by rw [e0]; exact q1)
  have n1 : x1.n = 132 := by omega
  refine pFX9_12 dX9_init_12 rfl t0 a1 (by omega) ?_
  have m2 := m1.setR (f := 0) (t := 2)
  have n2 : (x1.setR 1 0 (some 2)).n = 132 := n1
  generalize x1.setR 1 0 (some 2) = h2 at m2 n2 ⊢
  refine q_aload_n dX9_init_15 rfl ?_
  have e2 : h2.n + 1 = 133 := by rw [n2]
  refine q_new (ci := 1) (kc := 927) (ks := 7611) tyX1 tyX1_ok rfl q_in1 rfl q_df1 (by rw [e2]; exact rfl) ⟨q_W0_mem (List.mem_of_getElem? (i := 191) (by decide +kernel)) (by decide +kernel), q_ii1⟩ dX9_init_16 rfl rfl ?_
  rw [e2]
  refine q_dup dX9_init_19 rfl ?_
  refine q_ctor (kc := 140) (ks := 1863) (g_X1_init hst (h := h2.grow) (n0 := e2) (hz := fun f => by rw [← e2, q_Hp.grow_I'])) wX1_init kX9_18 iX1_init rfl rfl (by decide) (Nat.le_of_ble_eq_true rfl) dX9_init_20 rfl rfl (fun x3 q3 => ?_) q_pst.v
  obtain ⟨m3, y3⟩ := m2.call (K := 787) (by rw [e2]; exact q3)
  have n3 : x3.n = 920 := by omega
  refine pFX9_19 dX9_init_23 rfl t0 a1 (by omega) ?_
  have m4 := m3.setR (f := 1) (t := 133)
  have n4 : (x3.setR 1 1 (some 133)).n = 920 := n3
  generalize x3.setR 1 1 (some 133) = h4 at m4 n4 ⊢
  refine q_aload_n dX9_init_26 rfl ?_
  have e4 : h4.n + 1 = 921 := by rw [n4]
  refine q_new (ci := 5) (kc := 139) (ks := 1858) tyX5 tyX5_ok rfl q_in5 rfl q_df5 (by rw [e4]; exact rfl) ⟨q_W0_mem (List.mem_of_getElem? (i := 39) (by decide +kernel)) (by decide +kernel), q_ii5⟩ dX9_init_27 rfl rfl ?_
  rw [e4]
  refine q_dup dX9_init_30 rfl ?_
  refine q_ctorN (kc := 9) (ks := 906) (g_X5_init hst (B := 921) (Or.inr (Or.inl rfl)) (h := h4.grow) (n0 := e4) (hz := fun f => by rw [← e4, q_Hp.grow_I'])) wX5_init knX9_11 iX5_init rfl rfl (by decide) (Nat.le_of_ble_eq_true rfl) dX9_init_31 rfl rfl (fun x5 q5 => ?_) q_pst.v
  obtain ⟨m5, y5⟩ := m4.call (K := 130) (by rw [e4]; exact q5)
  have n5 : x5.n = 1051 := by omega
  refine pFX9_23 dX9_init_34 rfl t0 a1 (by omega) ?_
  have m6 := m5.setR (f := 2) (t := 921)
  have n6 : (x5.setR 1 2 (some 921)).n = 1051 := n5
  generalize x5.setR 1 2 (some 921) = h6 at m6 n6 ⊢
  refine q_aload_n dX9_init_37 rfl ?_
  refine q_iconst (v := nI 0) dX9_init_38 (by decide) ?_
  refine pIX9_26 dX9_init_39 (Or.inl rfl) t0 a1 (by omega) ?_
  have m7 := m6.setI (f := 3)
  have n7 : (h6.setI 1 3 (nI 0)).n = 1051 := n6
  generalize h6.setI 1 3 (nI 0) = h7 at m7 n7 ⊢
  refine q_aload_n dX9_init_42 rfl ?_
  refine q_bipush (v := nI 13) dX9_init_43 (by decide) ?_
  have e7 : h7.n + 1 = 1052 := by rw [n7]
  refine q_newC (n := 13) (kc := 8) (ks := 893) (by rw [e7]; exact q_zc52.1) (by rw [e7]; exact q_zc52.2.1) (by decide) dX9_init_45 rfl rfl ?_
  rw [e7]
  have m8 := m7.arr (by rw [e7]; exact q_zc52.2.2.1) (by rw [e7]; exact q_zc52.2.2.2)
  have n8 : (h7.grow).n = 1052 := e7
  generalize h7.grow = h8 at m8 n8 ⊢
  refine pFX9_30 dX9_init_47 rfl t0 a1 (by omega) ?_
  have m9 := m8.setR (f := 4) (t := 1052)
  have n9 : (h8.setR 1 4 (some 1052)).n = 1052 := n8
  generalize h8.setR 1 4 (some 1052) = h9 at m9 n9 ⊢
  refine q_aload_n dX9_init_50 rfl ?_
  refine q_iconst (v := nI 0) dX9_init_51 (by decide) ?_
  refine pIX9_34 dX9_init_52 t0 a1 (by omega) ?_
  have m10 := m9.setI (f := 5)
  have n10 : (h9.setI 1 5 (nI 0)).n = 1052 := n9
  generalize h9.setI 1 5 (nI 0) = h10 at m10 n10 ⊢
  refine q_aload_n dX9_init_55 rfl ?_
  have e10 : h10.n + 1 = 1053 := by rw [n10]
  refine q_new (ci := 7) (kc := 7) (ks := 890) tyX7 tyX7_ok rfl q_in7 rfl q_df7 (by rw [e10]; exact rfl) ⟨q_W0_mem (List.mem_of_getElem? (i := 211) (by decide +kernel)) (by decide +kernel), q_ii7⟩ dX9_init_56 rfl rfl ?_
  rw [e10]
  refine q_dup dX9_init_59 rfl ?_
  refine q_ctorN (kc := 5) (ks := 490) (g_X7_init hst (a := 1053) (by decide) rfl q_z54 q_z55 q_lk53 rfl (h := h10.grow) (n0 := e10) (hz := fun f => by rw [← e10, q_Hp.grow_I'])) wX7_init knX9_40 iX7_init rfl rfl (by decide) (Nat.le_of_ble_eq_true rfl) dX9_init_60 rfl rfl (fun x11 q11 => ?_) q_pst.v
  obtain ⟨m11, y11⟩ := m10.call (K := 2) (by rw [e10]; exact q11)
  have n11 : x11.n = 1055 := by omega
  refine pFX9_41 dX9_init_63 rfl t0 a1 (by omega) ?_
  have m12 := m11.setR (f := 6) (t := 1053)
  have n12 : (x11.setR 1 6 (some 1053)).n = 1055 := n11
  generalize x11.setR 1 6 (some 1053) = h12 at m12 n12 ⊢
  refine q_aload_n dX9_init_66 rfl ?_
  have e12 : h12.n + 1 = 1056 := by rw [n12]
  refine q_new (ci := 0) (kc := 4) (ks := 487) tyX0 tyX0_ok rfl q_in0 rfl q_df0 (by rw [e12]; exact rfl) ⟨q_W0_mem (List.mem_of_getElem? (i := 228) (by decide +kernel)) (by decide +kernel), q_ii0⟩ dX9_init_67 rfl rfl ?_
  rw [e12]
  refine q_dup dX9_init_70 rfl ?_
  refine q_ctorN (kc := 4) (ks := 487) (g_X0_init hst (a := 1056) (by decide) rfl q_lk56 rfl (h := h12.grow) (n0 := e12) (hz := fun f => by rw [← e12, q_Hp.grow_I'])) wX0_init knX9_47 iX0_init rfl rfl (by decide) (Nat.le_of_ble_eq_true rfl) dX9_init_71 rfl rfl (fun x13 q13 => ?_) q_pst.v
  obtain ⟨m13, y13⟩ := m12.call (K := 0) (by rw [e12]; exact q13)
  have n13 : x13.n = 1056 := by omega
  refine pFX9_48 dX9_init_74 rfl t0 a1 (by omega) ?_
  have m14 := m13.setR (f := 7) (t := 1056)
  have n14 : (x13.setR 1 7 (some 1056)).n = 1056 := n13
  generalize x13.setR 1 7 (some 1056) = h14 at m14 n14 ⊢
  refine q_aload_n dX9_init_77 rfl ?_
  refine q_sipush (v := nI 200) dX9_init_78 (by decide) ?_
  have e14 : h14.n + 1 = 1057 := by rw [n14]
  refine q_newI (n := 200) (kc := 3) (ks := 287) (by rw [e14]; exact q_z57.1) (by rw [e14]; exact q_z57.2.1) (by decide) dX9_init_81 rfl rfl ?_
  rw [e14]
  have m15 := m14.arr (by rw [e14]; exact q_z57.2.2.1) (by rw [e14]; exact q_z57.2.2.2)
  have n15 : (h14.grow).n = 1057 := e14
  generalize h14.grow = h15 at m15 n15 ⊢
  refine pFX9_52 dX9_init_83 rfl t0 a1 (by omega) ?_
  have m16 := m15.setR (f := 8) (t := 1057)
  have n16 : (h15.setR 1 8 (some 1057)).n = 1057 := n15
  generalize h15.setR 1 8 (some 1057) = h16 at m16 n16 ⊢
  refine q_aload_n dX9_init_86 rfl ?_
  refine q_bipush (v := nI 40) dX9_init_87 (by decide) ?_
  have e16 : h16.n + 1 = 1058 := by rw [n16]
  refine q_newI (n := 40) (kc := 2) (ks := 247) (by rw [e16]; exact q_z58.1) (by rw [e16]; exact q_z58.2.1) (by decide) dX9_init_89 rfl rfl ?_
  rw [e16]
  have m17 := m16.arr (by rw [e16]; exact q_z58.2.2.1) (by rw [e16]; exact q_z58.2.2.2)
  have n17 : (h16.grow).n = 1058 := e16
  generalize h16.grow = h17 at m17 n17 ⊢
  refine pFX9_56 dX9_init_91 rfl t0 a1 (by omega) ?_
  have m18 := m17.setR (f := 9) (t := 1058)
  have n18 : (h17.setR 1 9 (some 1058)).n = 1058 := n17
  generalize h17.setR 1 9 (some 1058) = h18 at m18 n18 ⊢
  refine q_aload_n dX9_init_94 rfl ?_
  refine q_bipush (v := nI 6) dX9_init_95 (by decide) ?_
  have e18 : h18.n + 1 = 1059 := by rw [n18]
  refine q_newI (n := 6) (kc := 1) (ks := 241) (by rw [e18]; exact q_z59.1) (by rw [e18]; exact q_z59.2.1) (by decide) dX9_init_97 rfl rfl ?_
  rw [e18]
  have m19 := m18.arr (by rw [e18]; exact q_z59.2.2.1) (by rw [e18]; exact q_z59.2.2.2)
  have n19 : (h18.grow).n = 1059 := e18
  generalize h18.grow = h19 at m19 n19 ⊢
  refine pFX9_59 dX9_init_99 rfl t0 a1 (by omega) ?_
  have m20 := m19.setR (f := 10) (t := 1059)
  have n20 : (h19.setR 1 10 (some 1059)).n = 1059 := n19
  generalize h19.setR 1 10 (some 1059) = h20 at m20 n20 ⊢
  refine q_aload_n dX9_init_102 rfl ?_
  refine q_sipush (v := nI 241) dX9_init_103 (by decide) ?_
  have e20 : h20.n + 1 = 1060 := by rw [n20]
  refine q_newI (n := 241) (kc := 0) (ks := 0) (by rw [e20]; exact q_z60.1) (by rw [e20]; exact q_z60.2.1) (by decide) dX9_init_106 rfl rfl ?_
  rw [e20]
  have m21 := m20.arr (by rw [e20]; exact q_z60.2.2.1) (by rw [e20]; exact q_z60.2.2.2)
  have n21 : (h20.grow).n = 1060 := e20
  generalize h20.grow = h21 at m21 n21 ⊢
  refine pFX9_62 dX9_init_108 rfl t0 a1 (by omega) ?_
  have m22 := m21.setR (f := 11) (t := 1060)
  have n22 : (h21.setR 1 11 (some 1060)).n = 1060 := n21
  generalize h21.setR 1 11 (some 1060) = h22 at m22 n22 ⊢
  refine q_vretM dX9_init_111 rfl (Or.inr rfl) ?_
  exact ⟨none, rfl, m22.fin (K := 1059) n22 q_lkp1 rfl⟩
