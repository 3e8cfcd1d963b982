/-! THE FRAME OF THIS PROOF: a heap of plain functions over places 0, 1, 2 .. (0: the script; from 1 on in the order in which the law's objects are made), and a judgement over it, q_G, a row an instruction. -/
/-- what is fixed for a walk: the launch, the script's address, the first address that is free at the law's start, the classes, the arrays' classes by kind, the script's length and ints -/
def q_Fx : Type := Launch × Nat × Nat × va_G × (Nat → ClassId) × Nat × (Nat → Int32) × Nat
def q_Fx.l (Φ : q_Fx) : Launch := Φ.1
def q_Fx.b (Φ : q_Fx) : Nat := Φ.2.1
def q_Fx.bb (Φ : q_Fx) : Nat := Φ.2.2.1
def q_Fx.D (Φ : q_Fx) : va_G := Φ.2.2.2.1
def q_Fx.cy (Φ : q_Fx) : Nat → ClassId := Φ.2.2.2.2.1
def q_Fx.L (Φ : q_Fx) : Nat := Φ.2.2.2.2.2.1
def q_Fx.xs (Φ : q_Fx) : Nat → Int32 := Φ.2.2.2.2.2.2.1
/-- the address of the first place of the diary -/
def q_Fx.bs (Φ : q_Fx) : Nat := Φ.2.2.2.2.2.2.2
/-- the heap: ints (fields and elements), references, longs, doubles, how many places are made -/
def q_Hp : Type := (Nat → Nat → Int32) × (Nat → Nat → Option Nat) × List Nat × (Nat → Nat → UInt64) × Nat
def q_Hp.I (h : q_Hp) : Nat → Nat → Int32 := h.1
def q_Hp.R (h : q_Hp) : Nat → Nat → Option Nat := h.2.1
/-- the law's own rows, by their numbers (2000 + 4 * address + kind: 0 int[900], 1 int[1], 2 int[7][]) -/
def q_Hp.J (h : q_Hp) : List Nat := h.2.2.1
def q_Hp.E (h : q_Hp) : Nat → Nat → UInt64 := h.2.2.2.1
def q_Hp.n (h : q_Hp) : Nat := h.2.2.2.2
/-- one slot anew -/
def q_up {α : Type} (I : Nat → Nat → α) (a f : Nat) (v : α) : Nat → Nat → α := fun a' => if a' = a then va_up (I a) f v else I a'
/-- one row anew -/
def q_row {α : Type} (I : Nat → Nat → α) (a : Nat) (g : Nat → α) : Nat → Nat → α := fun a' => if a' = a then g else I a'
def q_Hp.setI (h : q_Hp) (a f : Nat) (v : Int32) : q_Hp := (q_up h.I a f v, h.R, h.J, h.E, h.n)
def q_Hp.setR (h : q_Hp) (a f : Nat) (v : Option Nat) : q_Hp := (h.I, q_up h.R a f v, h.J, h.E, h.n)
def q_Hp.setE (h : q_Hp) (a f : Nat) (v : UInt64) : q_Hp := (h.I, h.R, h.J, q_up h.E a f v, h.n)
def q_Hp.rowI (h : q_Hp) (a : Nat) (g : Nat → Int32) : q_Hp := (q_row h.I a g, h.R, h.J, h.E, h.n)
/-- one place more, empty -/
def q_Hp.grow (h : q_Hp) : q_Hp := (q_row h.I (h.n + 1) (fun _ => 0), q_row h.R (h.n + 1) (fun _ => none), h.J, q_row h.E (h.n + 1) (fun _ => 0), h.n + 1)
/-- how many places the law makes in all -/
def q_N : Nat := 1060
/-! kinds of places: 0 .. 10 objects of the classes X0 .. X10; 11 char[], 12 int[], 13 Session[], 14 State[], 15 int[][], 16 long[], 17 double[] -/
/-- a State's block of 131 places -/
def q_tagS (r : Nat) : Nat := if r = 0 then 5 else if r = 1 then 6 else if r = 2 then 12 else if r = 3 then 12 else if r = 4 then 8 else if r = 5 then 12 else if r = 6 then 12 else if r = 7 then 4 else if r = 8 then 13 else if r < 129 then (if (r - 9) % 3 = 0 then 3 else 12) else if r = 129 then 2 else 12
def q_lenS (r : Nat) : Nat := if r = 2 then 10 else if r = 3 then 10 else if r = 5 then 6 else if r = 6 then 6 else if r = 8 then 40 else if r < 129 then 8 else 28
def q_tag (k : Nat) : Nat := if k = 0 then 12 else if k = 1 then 9 else if k < 133 then q_tagS (k - 2) else if k = 133 then 1 else if k = 134 then 14 else if k < 921 then q_tagS ((k - 135) % 131) else if k < 1052 then q_tagS (k - 921)
  else if k = 1052 then 11 else if k = 1053 then 7 else if k = 1056 then 0 else if k < 2000 then 12 else if k % 4 = 2 then 17 else 16
def q_len (k : Nat) : Nat := if k < 133 then q_lenS (k - 2) else if k = 134 then 6 else if k < 921 then q_lenS ((k - 135) % 131) else if k < 1052 then q_lenS (k - 921)
  else if k = 1052 then 13 else if k = 1054 then 200 else if k = 1055 then 200 else if k = 1057 then 200 else if k = 1058 then 40 else if k = 1059 then 6 else if k = 1060 then 241
  else if k < 2000 then 1 else if k % 4 = 0 then 900 else if k % 4 = 2 then 7 else 1
/-- which fields are references -/
def q_kinds : Nat → List Bool
  | 0 => [false, false, false]
  | 1 => [true, false, false]
  | 2 => [false, false, false, true]
  | 3 => [false, false, false, true, true]
  | 4 => [true, false, false]
  | 5 => [false, true, true, true, true]
  | 6 => [true, true, false]
  | 7 => [true, true, false]
  | 8 => [true, true]
  | 9 => [true, true, true, false, true, false, true, true, true, true, true, true]
  | _ => []
abbrev q_cl : List vw_C := [(RX0, TX0, 3), (RX1, TX1, 3), (RX2, TX2, 4), (RX3, TX3, 5), (RX4, TX4, 3), (RX5, TX5, 5), (RX6, TX6, 3), (RX7, TX7, 3), (RX8, TX8, 2), (RX9, TX9, 12)]
abbrev q_tys (Φ : q_Fx) : List (ClassId × FieldType) := [(Φ.cy 11, .char), (Φ.cy 12, .int), (Φ.cy 13, .object RX3), (Φ.cy 14, .object RX5), (Φ.cy 15, .array .int)]
/-- a place's address, and a value with it -/
def q_ad (Φ : q_Fx) (k : Nat) : Nat := if k = 0 then Φ.b else if k < 2000 then Φ.bs + (k - 1) else (k - 2000) / 4
def q_cv (Φ : q_Fx) : Value → Value
  | .ref k => .ref (q_ad Φ k)
  | v => v
def q_rf : Option Nat → Value
  | none => .null
  | some k => .ref k
theorem q_cv_rf (Φ : q_Fx) (o : Option Nat) : q_cv Φ (q_rf o) = va_rf (o.map (q_ad Φ)) := by cases o <;> rfl
/-- an object's fields, at a place k -/
def q_fs (Φ : q_Fx) (h : q_Hp) (k : Nat) : List Value := (List.range (q_kinds (q_tag k)).length).map (fun f => if (q_kinds (q_tag k))[f]? = some true then va_rf ((h.R k f).map (q_ad Φ)) else .int (h.I k f))
/-- the cell at a place k -/
def q_cell (Φ : q_Fx) (h : q_Hp) (k : Nat) : va_E :=
  if q_tag k < 11 then .inr (q_tag k, q_fs Φ h k)
  else if q_tag k < 13 then .inl (Φ.cy (q_tag k), q_len k, .inl (h.I k))
  else if q_tag k < 16 then .inl (Φ.cy (q_tag k), q_len k, .inr (.inr (.inr (.inr (fun i => (h.R k i).map (q_ad Φ))))))
  else if q_tag k < 17 then .inl (Φ.cy 12, q_len k, .inl (h.I k))
  else .inl (Φ.cy 15, q_len k, .inr (.inr (.inr (.inr (fun i => (h.R k i).map (q_ad Φ))))))
def q_ws (Φ : q_Fx) (h : q_Hp) : va_W := (List.range h.n).map (fun j => (q_ad Φ (j + 1), q_cell Φ h (j + 1))) ++ h.J.map (fun k => (q_ad Φ k, q_cell Φ h k))
/-- what the law may write: all from its start on -/
def q_A (Φ : q_Fx) : Nat → Prop := fun q => Φ.bb ≤ q
theorem q_ad_pos (Φ : q_Fx) {k : Nat} (h : 1 ≤ k) (h2 : k < 2000) : q_ad Φ k = Φ.bs + (k - 1) := by
  unfold q_ad; rw [if_neg (by omega), if_pos h2]
theorem q_ad_dyn (Φ : q_Fx) {k : Nat} (h : 2000 ≤ k) : q_ad Φ k = (k - 2000) / 4 := by
  unfold q_ad; rw [if_neg (by omega), if_neg (by omega)]
theorem q_tag_st {k : Nat} (h : q_tag k < 16) : k < 2000 := by
  refine Nat.not_le.mp fun e => ?_
  have : q_tag k = if k % 4 = 2 then 17 else 16 := by
    unfold q_tag
    rw [if_neg (by omega), if_neg (by omega), if_neg (by omega), if_neg (by omega), if_neg (by omega), if_neg (by omega), if_neg (by omega), if_neg (by omega), if_neg (by omega), if_neg (by omega), if_neg (by omega)]
  rw [this] at h
  split at h <;> omega
theorem q_ws_at (Φ : q_Fx) (h : q_Hp) {k : Nat} (h1 : 1 ≤ k) (h2 : k ≤ h.n) : (q_ws Φ h)[k - 1]? = some (q_ad Φ k, q_cell Φ h k) := by
  unfold q_ws
  rw [List.getElem?_append_left (by rw [List.length_map, List.length_range]; omega), List.getElem?_map, List.getElem?_range (by omega), Option.map_some, Nat.sub_add_cancel h1]
theorem q_ws_atJ (Φ : q_Fx) (h : q_Hp) {i k : Nat} (hi : h.J[i]? = some k) : (q_ws Φ h)[h.n + i]? = some (q_ad Φ k, q_cell Φ h k) := by
  unfold q_ws
  rw [List.getElem?_append_right (by rw [List.length_map, List.length_range]; omega), List.length_map, List.length_range, Nat.add_sub_cancel_left, List.getElem?_map, hi]; rfl
theorem q_ws_len (Φ : q_Fx) (h : q_Hp) : (q_ws Φ h).length = h.n + h.J.length := by unfold q_ws; rw [List.length_append, List.length_map, List.length_range, List.length_map]
/-- the places' addresses, in their order -/
def q_as (Φ : q_Fx) (n : Nat) (J : List Nat) : List Nat := (List.range n).map (fun j => q_ad Φ (j + 1)) ++ J.map (q_ad Φ)
theorem q_ws_as (Φ : q_Fx) (h : q_Hp) : (q_ws Φ h).map (fun p => p.1) = q_as Φ h.n h.J := by
  unfold q_ws q_as
  rw [List.map_append, List.map_map, List.map_map]
  rfl
/-- in the time of the making: k cells are the places so far, and there are no rows of the law's own -/
def q_mkg (Φ : q_Fx) (n : Nat) (J : List Nat) (k : Nat) : Prop := k = Φ.bs + n ∧ Φ.bs = Φ.bb ∧ J = []
/-- the places lie apart, in what the law may write; its own rows have numbers from 2000 on -/
def q_dok (Φ : q_Fx) (n : Nat) (J : List Nat) : Prop :=
  (q_as Φ n J).Nodup ∧ (∀ x ∈ q_as Φ n J, Φ.bb ≤ x) ∧ (∀ a ∈ J, 2000 ≤ a) ∧ n < 2000
theorem q_as_of (Φ : q_Fx) {h : q_Hp} {i : Nat} {p : Nat × va_E} (hi : (q_ws Φ h)[i]? = some p) : (q_as Φ h.n h.J)[i]? = some p.1 := by
  rw [← q_ws_as, List.getElem?_map, hi]; rfl
theorem q_dok.inj {Φ : q_Fx} {n : Nat} {J : List Nat} (hd : q_dok Φ n J) {i j x : Nat} (hi : (q_as Φ n J)[i]? = some x) (hj : (q_as Φ n J)[j]? = some x) : i = j :=
  (List.getElem?_inj (List.getElem?_eq_some_iff.mp hi).1 hd.1).mp (hi.trans hj.symm)
theorem q_D {Φ : q_Fx} {h : q_Hp} (hd : q_dok Φ h.n h.J) : va_D (q_A Φ) (q_ws Φ h) :=
  ⟨fun i j p q hi hj hpq => hd.inj (q_as_of Φ hi) (by rw [hpq]; exact q_as_of Φ hj), fun k q hk => hd.2.1 q.1 (List.mem_of_getElem? (q_as_of Φ hk))⟩
theorem q_dok.apart {Φ : q_Fx} {h : q_Hp} (hd : q_dok Φ h.n h.J) {k i : Nat} (h1 : 1 ≤ k) (h2 : k ≤ h.n) (hi : h.J[i]? = some k) : False := by
  have e1 := q_as_of Φ (q_ws_at Φ h h1 h2)
  have e2 := q_as_of Φ (q_ws_atJ Φ h hi)
  have := hd.inj e1 e2
  omega
/-- a cell set: the world of the heap that has it -/
theorem q_ws_set (Φ : q_Fx) {h h' : q_Hp} {k : Nat} {e : va_E} (hd : q_dok Φ h.n h.J) (h1 : 1 ≤ k) (h2 : k ≤ h.n) (hn : h'.n = h.n) (hJ : h'.J = h.J) (he : q_cell Φ h' k = e) (ho : ∀ j, j ≠ k → q_cell Φ h' j = q_cell Φ h j) : (q_ws Φ h).set (k - 1) (q_ad Φ k, e) = q_ws Φ h' := by
  apply List.ext_getElem?
  intro i
  by_cases hi : i = k - 1
  · subst hi
    rw [List.getElem?_set_self (by rw [q_ws_len]; omega), q_ws_at Φ h' h1 (by rw [hn]; exact h2), he]
  · rw [List.getElem?_set_ne (Ne.symm hi)]
    by_cases hl : i < h.n
    · have a1 := q_ws_at Φ h (k := i + 1) (by omega) (by omega)
      have a2 := q_ws_at Φ h' (k := i + 1) (by omega) (by omega)
      rw [Nat.add_sub_cancel] at a1 a2
      rw [a1, a2, ho (i + 1) (by omega)]
    · obtain ⟨j, rfl⟩ : ∃ j, i = h.n + j := ⟨i - h.n, by omega⟩
      cases hj : h.J[j]? with
      | none =>
        have hlen := List.getElem?_eq_none_iff.mp hj
        rw [List.getElem?_eq_none (by rw [q_ws_len]; omega), List.getElem?_eq_none (by rw [q_ws_len, hn, hJ]; omega)]
      | some a =>
        rw [q_ws_atJ Φ h hj, ← hn, q_ws_atJ Φ h' (by rw [hJ]; exact hj), ho a (fun e9 => hd.apart h1 h2 (by rw [← e9]; exact hj))]
theorem q_P_mem {D : va_G} {cl : List vw_C} {ws ws' : va_W} {H : Heap} (hP : va_P D cl ws H) (hm : ∀ p ∈ ws', p ∈ ws) : va_P D cl ws' H := fun k x hk => by
  obtain ⟨j, hj⟩ := List.getElem?_of_mem (hm x (List.mem_of_getElem? hk))
  exact hP j x hj
theorem q_as_grow (Φ : q_Fx) (n : Nat) (J : List Nat) : ∀ x, x ∈ q_as Φ (n + 1) J ↔ x ∈ q_as Φ n J ∨ x = q_ad Φ (n + 1) := by
  intro x
  unfold q_as
  rw [List.range_succ, List.map_append, List.map_cons, List.map_nil, List.mem_append, List.mem_append, List.mem_append, List.mem_singleton]
  constructor
  · rintro ((a | a) | a)
    · exact Or.inl (Or.inl a)
    · exact Or.inr a
    · exact Or.inl (Or.inr a)
  · rintro ((a | a) | a)
    · exact Or.inl (Or.inl a)
    · exact Or.inr a
    · exact Or.inl (Or.inr a)
theorem q_as_nodup (Φ : q_Fx) {n : Nat} {J : List Nat} (h : (q_as Φ n J).Nodup) (hq : q_ad Φ (n + 1) ∉ q_as Φ n J) : (q_as Φ (n + 1) J).Nodup := by
  have e : (q_as Φ (n + 1) J).Perm (q_ad Φ (n + 1) :: q_as Φ n J) := by
    unfold q_as
    rw [List.range_succ, List.map_append, List.map_cons, List.map_nil, List.append_assoc]
    exact List.perm_middle
  exact e.nodup_iff.mpr (List.nodup_cons.mpr ⟨hq, h⟩)
/-- the same of one of the law's own rows -/
theorem q_ws_setJ (Φ : q_Fx) {h h' : q_Hp} {k i : Nat} {e : va_E} (hd : q_dok Φ h.n h.J) (hi : h.J[i]? = some k) (hn : h'.n = h.n) (hJ : h'.J = h.J) (he : q_cell Φ h' k = e) (ho : ∀ j, j ≠ k → q_cell Φ h' j = q_cell Φ h j) : (q_ws Φ h).set (h.n + i) (q_ad Φ k, e) = q_ws Φ h' := by
  have hil : i < h.J.length := (List.getElem?_eq_some_iff.mp hi).1
  apply List.ext_getElem?
  intro z
  by_cases hz : z = h.n + i
  · subst hz
    rw [List.getElem?_set_self (by rw [q_ws_len]; omega), ← hn, q_ws_atJ Φ h' (by rw [hJ]; exact hi), he]
  · rw [List.getElem?_set_ne (Ne.symm hz)]
    by_cases hl : z < h.n
    · have a1 := q_ws_at Φ h (k := z + 1) (by omega) (by omega)
      have a2 := q_ws_at Φ h' (k := z + 1) (by omega) (by omega)
      rw [Nat.add_sub_cancel] at a1 a2
      rw [a1, a2, ho (z + 1) (fun e9 => hd.apart (k := z + 1) (by omega) (by omega) (by rw [e9]; exact hi))]
    · obtain ⟨j, rfl⟩ : ∃ j, z = h.n + j := ⟨z - h.n, by omega⟩
      cases hj : h.J[j]? with
      | none =>
        have hlen := List.getElem?_eq_none_iff.mp hj
        rw [List.getElem?_eq_none (by rw [q_ws_len]; omega), List.getElem?_eq_none (by rw [q_ws_len, hn, hJ]; omega)]
      | some a =>
        rw [q_ws_atJ Φ h hj, ← hn, q_ws_atJ Φ h' (by rw [hJ]; exact hj), ho a (fun e9 => by
          subst e9
          have := hd.inj (q_as_of Φ (q_ws_atJ Φ h hi)) (q_as_of Φ (q_ws_atJ Φ h hj))
          omega)]
/-! what lies outside: statics of Throwable, the Strings of the throws, the class's two constant rows -/
def q_strs : List (String × Nat × String) := [("TrainingDiary", 345, "an argument is out of range"), ("TrainingDiary", 74, "the diary ends before that day"), ("TrainingDiary", 100, "no further test is possible on this day"), ("TrainingDiary", 119, "there is no test on this day"), ("TrainingDiary", 141, "the bounds would not increase"), ("TrainingDiary", 163, "no further session is possible"), ("TrainingDiary", 359, "no session has this id"), ("TrainingDiary", 181, "the session has no room for this part"), ("TrainingDiary", 228, "there are no minutes"), ("TrainingDiary", 299, "no further entry is possible today"), ("TrainingDiary", 303, "there is no such entry"), ("TrainingDiary", 371, "no entry is due"), ("TrainingDiary", 327, "there is no such character"), ("TrainingDiary", 330, "nothing can be undone"), ("TrainingDiary", 338, "there is no snapshot"), ("TrainingDiary", 202, "there is no such position")]
/-- the words that aren't good in the kit's sense, one by one -/
def q_nw : List Cond := [.methodLinkNest "TrainingDiary" 11 ⟨"TrainingDiary$State", "<init>", "()V"⟩ "TrainingDiary", .methodLinkNest "TrainingDiary$State" 15 ⟨"TrainingDiary$Tests", "<init>", "()V"⟩ "TrainingDiary", .methodLinkNest "TrainingDiary$State" 22 ⟨"TrainingDiary$Zones", "<init>", "()V"⟩ "TrainingDiary", .fieldLinkNest "TrainingDiary$Zones" 9 "TrainingDiary" "FIRST_BOUNDS" "[I" "TrainingDiary", .castable "[I" "java/lang/Cloneable", .fieldLinkNest "TrainingDiary$Zones" 23 "TrainingDiary" "FIRST_WEIGHTS" "[I" "TrainingDiary", .methodLinkNest "TrainingDiary$Sessions" 24 ⟨"TrainingDiary$Session", "<init>", "()V"⟩ "TrainingDiary", .methodLinkNest "TrainingDiary$State" 36 ⟨"TrainingDiary$Plan", "<init>", "()V"⟩ "TrainingDiary", .methodLinkNest "TrainingDiary$History" 24 ⟨"TrainingDiary$State", "<init>", "()V"⟩ "TrainingDiary", .methodLinkNest "TrainingDiary" 40 ⟨"TrainingDiary$Trend", "<init>", "()V"⟩ "TrainingDiary", .methodLinkNest "TrainingDiary" 47 ⟨"TrainingDiary$Course", "<init>", "()V"⟩ "TrainingDiary", .methodLinkNest "TrainingDiary$State" 91 ⟨"TrainingDiary", "clear", "([I)V"⟩ "TrainingDiary", .castable "java/lang/IllegalArgumentException" "java/lang/IllegalArgumentException", .declares ⟨"java/lang/RuntimeException", "<init>", "()V"⟩, .declares ⟨"java/lang/RuntimeException", "<init>", "(Ljava/lang/String;)V"⟩, .declares ⟨"java/lang/Exception", "<init>", "()V"⟩, .declares ⟨"java/lang/Exception", "<init>", "(Ljava/lang/String;)V"⟩, .declares ⟨"java/lang/Throwable", "<init>", "()V"⟩, .declares ⟨"java/lang/Throwable", "<init>", "(Ljava/lang/String;)V"⟩, .castable "java/lang/IllegalStateException" "java/lang/IllegalStateException", .castable "java/util/NoSuchElementException" "java/util/NoSuchElementException", .castable "java/lang/ArithmeticException" "java/lang/ArithmeticException", .castable "java/lang/ArrayIndexOutOfBoundsException" "java/lang/ArrayIndexOutOfBoundsException", .declares ⟨"java/lang/IndexOutOfBoundsException", "<init>", "()V"⟩, .declares ⟨"java/lang/IndexOutOfBoundsException", "<init>", "(Ljava/lang/String;)V"⟩, .castable "java/lang/IndexOutOfBoundsException" "java/lang/IndexOutOfBoundsException", .castable "java/lang/ArrayIndexOutOfBoundsException" "java/lang/IndexOutOfBoundsException", .castable "TrainingDiary" "java/lang/Object", .castable "TrainingDiary$State" "java/lang/Object", .castable "TrainingDiary$Tests" "java/lang/Object", .castable "TrainingDiary$Zones" "java/lang/Object", .castable "TrainingDiary$Sessions" "java/lang/Object", .castable "TrainingDiary$Session" "java/lang/Object", .castable "TrainingDiary$Plan" "java/lang/Object", .castable "TrainingDiary$History" "java/lang/Object", .castable "TrainingDiary$Trend" "java/lang/Object", .castable "TrainingDiary$Course" "java/lang/Object", .castable "java/lang/ArrayIndexOutOfBoundsException" "java/lang/Object", .castable "java/lang/IndexOutOfBoundsException" "java/lang/Object", .castable "java/lang/IllegalStateException" "java/lang/Object", .castable "java/util/NoSuchElementException" "java/lang/Object", .castable "java/lang/IllegalArgumentException" "java/lang/Object", .castable "java/lang/ArithmeticException" "java/lang/Object", .castable "java/lang/Throwable" "java/lang/Object", .castable "java/lang/String" "java/lang/Object"]
/-- a static row of ints of the class TrainingDiary -/
def q_St (Φ : q_Fx) (n : String) (f : List Int32) (s : State) (H : Heap) : Prop := ∃ (t : Nat) (cell : Cell), va_Z "TrainingDiary" n "[I" (.ref t) (q_A Φ) s H ∧ H[t]? = some cell ∧ ¬ q_A Φ t ∧ cell.cls = Φ.cy 12 ∧ (∀ k, cell.vm ≠ .statics k) ∧ cell.vm ≠ .unknown ∧ cell.slots = (f.map Value.int).toArray
theorem q_St.moved {Φ : q_Fx} {n : String} {f : List Int32} {u U : State} {H : Heap} (hvm : u.vm.Alike U.vm) (h : q_St Φ n f u H) : q_St Φ n f U H := by
  obtain ⟨t, cell, h1, h2⟩ := h
  exact ⟨t, cell, h1.moved hvm, h2⟩
theorem q_St.kept {Φ : q_Fx} {n : String} {f : List Int32} {U : State} {H H1 : Heap} (h : q_St Φ n f U H) (hq : ∀ a : Nat, a < H.size → ¬ q_A Φ a → H1[a]? = H[a]?) : q_St Φ n f U H1 := by
  obtain ⟨t, cell, h1, h2, h3, h4⟩ := h
  exact ⟨t, cell, h1.kept hq, by rw [hq t (Array.getElem?_eq_some_iff.mp h2).1 h3]; exact h2, h3, h4⟩
theorem va_AOA_warm {t : FieldType} {s U : State} (hal : s.vm.Alike U.vm) (h : va_AOA t s) : va_AOA t U := by
  have h1 := Cond.arrayOver_setVmC (args := #[]) hal (.array t)
  have h2 : (Cond.arrayOver (.array t)).before #[] (s.setVm U.vm) = true := h1.trans h
  exact h2
/-- classes that aren't castable to others -/
def q_ncs : List (String × String) := [("java/lang/IllegalStateException", "java/lang/IllegalArgumentException"), ("java/util/NoSuchElementException", "java/lang/IllegalArgumentException"), ("java/lang/IllegalArgumentException", "java/util/NoSuchElementException"), ("java/lang/IllegalStateException", "java/util/NoSuchElementException"), ("java/lang/ArithmeticException", "java/lang/IllegalArgumentException")]
def q_Ext (Φ : q_Fx) (s : State) (H : Heap) : Prop :=
  vx_Zq Bundle.tN "UNASSIGNED_STACK" Bundle.steD (q_A Φ) s H ∧ vx_Zq Bundle.tN "SUPPRESSED_SENTINEL" Bundle.listD (q_A Φ) s H ∧
  (∀ x ∈ q_strs, ∃ a, vk_R x.1 x.2.1 x.2.2 a s) ∧ (∀ w ∈ q_nw, va_Nw w s) ∧ va_AO RX3 s ∧ va_AO RX5 s ∧ va_AOA .int s ∧ q_St Φ "FIRST_BOUNDS" [0, 0, 80, 90, 100, 110] s H ∧ q_St Φ "FIRST_WEIGHTS" [0, 1, 2, 3, 5, 8] s H ∧ (∀ x ∈ q_ncs, va_Nc x.1 x.2 s)
def q_nk : Cond → Bool
  | .castable .. => true
  | .declares _ => true
  | .methodLinkNest .. => true
  | .fieldLinkNest .. => true
  | _ => false
theorem q_nw_nk : ∀ w ∈ q_nw, q_nk w = true := by decide +kernel
theorem q_nk_on {w : Cond} (h : q_nk w = true) : w.onTables = true := by cases w <;> first | rfl | (simp [q_nk] at h)
theorem q_nk_warm {w : Cond} (hk : q_nk w = true) {s U : State} (hW : s.WarmedH U.vm) (h : va_Nw w s) : va_Nw w U := by
  cases w with
  | castable C T => exact va_Nw.warmC hW h
  | declares x => exact va_Nw.warmD hW h
  | methodLinkNest a i x g => exact va_Nw.warmM hW h
  | fieldLinkNest a i b n d g => exact va_Nw.warmF hW h
  | _ => simp [q_nk] at hk
theorem q_Ext_same {Φ : q_Fx} {u U : State} {H : Heap} (hv : u.vm = U.vm) (h : q_Ext Φ u H) : q_Ext Φ U H := by
  have hal : u.vm.Alike U.vm := by rw [hv]; exact Vm.Alike.refl _
  obtain ⟨h1, h2, h3, h4, h5, h6, h7, h8, h9, h10⟩ := h
  exact ⟨h1.moved hal, h2.moved hal, fun x hx => (h3 x hx).imp fun a ha => vk_R.same hv.symm ha, fun w hw => va_Nw.same (q_nk_on (q_nw_nk w hw)) hv (h4 w hw), h5.moved hal, h6.moved hal, va_AOA_warm hal h7, h8.moved hal, h9.moved hal, fun x hx => (h10 x hx).moved hal⟩
theorem q_Ext_warm {Φ : q_Fx} {s U : State} {H : Heap} {locs : List Loc} (hW : s.WarmedH U.vm) (hS : va_S (q_A Φ) s.heap H locs) (h : q_Ext Φ s s.heap) : q_Ext Φ U H := by
  have hk : ∀ a : Nat, a < s.heap.size → ¬ q_A Φ a → H[a]? = s.heap[a]? := hS.2.1
  have hal := hW.alike
  obtain ⟨h1, h2, h3, h4, h5, h6, h7, h8, h9, h10⟩ := h
  exact ⟨(h1.moved hal).kept hk, (h2.moved hal).kept hk, fun x hx => (h3 x hx).imp fun a ha => vk_R.warm hW ha, fun w hw => q_nk_warm (q_nw_nk w hw) hW (h4 w hw), h5.moved hal, h6.moved hal, va_AOA_warm hal h7, (h8.moved hal).kept hk, (h9.moved hal).kept hk, fun x hx => (h10 x hx).moved hal⟩
