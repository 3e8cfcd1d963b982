/-! NETS WITH CELLS TAKEN DOWN -/
/-- the cells from a on, up to e, taken from s further -/
def q_shf (N : Nat → Int32) (a e s : Nat) : Nat → Int32 := fun j => if a ≤ j ∧ j < e then N (j + s) else N j
theorem q_shf_o (N : Nat → Int32) {a e s j : Nat} (h : j < a ∨ e ≤ j) : q_shf N a e s j = N j := if_neg (by omega)
theorem q_shf_i (N : Nat → Int32) {a e s j : Nat} (h1 : a ≤ j) (h2 : j < e) : q_shf N a e s j = N (j + s) := if_pos ⟨h1, h2⟩
theorem q_shf_0 (N : Nat → Int32) (a s : Nat) : q_shf N a a s = N := funext fun j => if_neg (by omega)
theorem q_shf_s (N : Nat → Int32) {a e s : Nat} (h : a ≤ e) : va_up (q_shf N a e s) e (N (e + s)) = q_shf N a (e + 1) s := by
  funext j
  unfold va_up q_shf
  by_cases h1 : j = e
  · rw [if_pos h1, if_pos (by omega), h1]
  · rw [if_neg h1]
    by_cases h2 : a ≤ j ∧ j < e
    · rw [if_pos h2, if_pos (by omega)]
    · rw [if_neg h2, if_neg (by omega)]
theorem q_nRemT {N : Nat → Int32} {m : q_W} {ρ : Nat → Nat} (R : q_nr N m ρ) (B : q_bd m) {t : Nat} (ht : t < m.n) :
    (∃ ρ1, q_nr (va_up (va_up (q_shf N (40 + 2 * t) (38 + 2 * m.n) 2) 3 (nI (m.n - 1))) 899 (nI 1)) (m.sT (m.n - 1) (va_up m.d (ρ t) (m.d (m.n - 1))) (va_up m.v (ρ t) (m.v (m.n - 1)))) ρ1) ∧ q_bd (m.sT (m.n - 1) (va_up m.d (ρ t) (m.d (m.n - 1))) (va_up m.v (ρ t) (m.v (m.n - 1)))) := by
  obtain ⟨b1, b2, b3, b4, b5, b6, b7⟩ := id B
  obtain ⟨r1, r2⟩ := R.bij
  have hs : ∀ u, u < m.n - 1 → (if u < t then u else u + 1) < m.n ∧ (if u < t then u else u + 1) ≠ t := fun u hu => by split <;> omega
  have hne : ∀ u, u < m.n - 1 → ρ (if u < t then u else u + 1) ≠ ρ t := fun u hu e => (hs u hu).2 (r2 _ (hs u hu).1 t ht e)
  have hlt : ∀ u, u < m.n - 1 → ρ (if u < t then u else u + 1) < m.n := fun u hu => r1 _ (hs u hu).1
  have htl := r1 t ht
  refine ⟨⟨fun u => if ρ (if u < t then u else u + 1) = m.n - 1 then ρ t else ρ (if u < t then u else u + 1), ?_, ?_, ?_, ?_, ?_, ?_, ?_, ?_, ?_, ?_, ?_, ?_, ?_⟩, b1, show m.n - 1 ≤ 10 by omega, b3, b4, b5, b6, b7⟩
  · rw [va_un _ _ (by omega), va_un _ _ (by omega), q_shf_o N (by omega)]; exact R.t
  · rw [va_un _ _ (by omega), va_un _ _ (by omega), q_shf_o N (by omega)]; exact R.nx
  · rw [va_un _ _ (by omega), va_un _ _ (by omega), q_shf_o N (by omega)]; exact R.c
  · rw [va_un _ _ (by omega), va_us]; rfl
  · rw [va_un _ _ (by omega), va_un _ _ (by omega), q_shf_o N (by omega)]; exact R.pe
  · rw [va_un _ _ (by omega), va_un _ _ (by omega), q_shf_o N (by omega)]; exact R.pf
  · rw [va_un _ _ (by omega), va_un _ _ (by omega), q_shf_o N (by omega)]; exact R.pc
  · intro z h1 h2; rw [va_un _ _ (by omega), va_un _ _ (by omega), q_shf_o N (by omega)]; exact R.bd h1 h2
  · intro z h1 h2; rw [va_un _ _ (by omega), va_un _ _ (by omega), q_shf_o N (by omega)]; exact R.wt h1 h2
  · refine ⟨fun u hu => ?_, fun u hu w hw e => ?_⟩
    · have hu : u < m.n - 1 := hu
      have h1 := hne u hu
      have h2 := hlt u hu
      show (if ρ (if u < t then u else u + 1) = m.n - 1 then ρ t else ρ (if u < t then u else u + 1)) < m.n - 1
      by_cases e1 : ρ (if u < t then u else u + 1) = m.n - 1
      · rw [if_pos e1]; omega
      · rw [if_neg e1]; omega
    · have hu : u < m.n - 1 := hu
      have hw : w < m.n - 1 := hw
      have e : (if ρ (if u < t then u else u + 1) = m.n - 1 then ρ t else ρ (if u < t then u else u + 1)) = (if ρ (if w < t then w else w + 1) = m.n - 1 then ρ t else ρ (if w < t then w else w + 1)) := e
      have key : ρ (if u < t then u else u + 1) = ρ (if w < t then w else w + 1) → u = w := fun e9 => by
        have := r2 _ (hs u hu).1 _ (hs w hw).1 e9
        split at this <;> split at this <;> omega
      by_cases e1 : ρ (if u < t then u else u + 1) = m.n - 1
      · by_cases e2 : ρ (if w < t then w else w + 1) = m.n - 1
        · exact key (e1.trans e2.symm)
        · rw [if_pos e1, if_neg e2] at e; exact absurd e.symm (hne w hw)
      · by_cases e2 : ρ (if w < t then w else w + 1) = m.n - 1
        · rw [if_neg e1, if_pos e2] at e; exact absurd e (hne u hu)
        · rw [if_neg e1, if_neg e2] at e; exact key e
  · intro u hu
    have hu : u < m.n - 1 := hu
    have h1 := hne u hu
    have h2 := hlt u hu
    show _ = va_up m.d (ρ t) (m.d (m.n - 1)) (if ρ (if u < t then u else u + 1) = m.n - 1 then ρ t else ρ (if u < t then u else u + 1)) ∧ _ = va_up m.v (ρ t) (m.v (m.n - 1)) (if ρ (if u < t then u else u + 1) = m.n - 1 then ρ t else ρ (if u < t then u else u + 1))
    have eq : ∀ f : Nat → Int32, va_up f (ρ t) (f (m.n - 1)) (if ρ (if u < t then u else u + 1) = m.n - 1 then ρ t else ρ (if u < t then u else u + 1)) = f (ρ (if u < t then u else u + 1)) := fun f => by
      by_cases e1 : ρ (if u < t then u else u + 1) = m.n - 1
      · rw [if_pos e1, va_us, e1]
      · rw [if_neg e1, va_un _ _ h1]
    rw [eq, eq, va_un _ _ (by omega), va_un _ _ (by omega), va_un _ _ (by omega), va_un _ _ (by omega)]
    by_cases e : u < t
    · rw [if_pos e, q_shf_o N (by omega), q_shf_o N (by omega)]
      exact ⟨R.d (by omega), R.v (by omega)⟩
    · rw [if_neg e, q_shf_i N (by omega) (by omega), q_shf_i N (by omega) (by omega), show 40 + 2 * u + 2 = 40 + 2 * (u + 1) by omega, show 41 + 2 * u + 2 = 41 + 2 * (u + 1) by omega]
      exact ⟨R.d (by omega), R.v (by omega)⟩
  · intro e he
    have he : e < m.pc := he
    rw [va_un _ _ (by omega), va_un _ _ (by omega), q_shf_o N (by omega)]; exact R.tg he
  · intro i hi
    have hi : i < m.c := hi
    have h8 := b7 i hi
    refine ⟨?_, ?_, ?_, fun p hp => ?_⟩
    · rw [va_un _ _ (by omega), va_un _ _ (by omega), q_shf_o N (by omega)]; exact R.id hi
    · rw [va_un _ _ (by omega), va_un _ _ (by omega), q_shf_o N (by omega)]; exact R.dy hi
    · rw [va_un _ _ (by omega), va_un _ _ (by omega), q_shf_o N (by omega)]; exact R.pn hi
    · have hp : p < m.pn i := hp
      rw [va_un _ _ (by omega), va_un _ _ (by omega), q_shf_o N (by omega), va_un _ _ (by omega), va_un _ _ (by omega), q_shf_o N (by omega)]
      exact ⟨R.mn hi hp, R.it hi hp⟩
theorem q_nRemS {N : Nat → Int32} {m : q_W} {ρ : Nat → Nat} (R : q_nr N m ρ) (B : q_bd m) {k : Nat} (hk : k < m.c) :
    q_nr (va_up (q_shf (va_up N 899 (nI 1)) (100 + 20 * k) (80 + 20 * m.c) 20) 2 (nI (m.c - 1))) (m.rmS k) ρ ∧ q_bd (m.rmS k) := by
  obtain ⟨b1, b2, b3, b4, b5, b6, b7⟩ := id B
  have go : ∀ j, j ≠ 2 → (j < 100 + 20 * k) → va_up (q_shf (va_up N 899 (nI 1)) (100 + 20 * k) (80 + 20 * m.c) 20) 2 (nI (m.c - 1)) j = N j := fun j h1 h2 => by
    rw [va_un _ _ h1, q_shf_o _ (Or.inl h2), va_un _ _ (by omega)]
  have gi : ∀ j, 100 + 20 * k ≤ j → j < 80 + 20 * m.c → va_up (q_shf (va_up N 899 (nI 1)) (100 + 20 * k) (80 + 20 * m.c) 20) 2 (nI (m.c - 1)) j = N (j + 20) := fun j h1 h2 => by
    rw [va_un _ _ (by omega), q_shf_i _ h1 h2, va_un _ _ (by omega)]
  refine ⟨⟨?_, ?_, ?_, ?_, ?_, ?_, ?_, ?_, ?_, R.bij, ?_, ?_, ?_⟩, b1, b2, show m.c - 1 ≤ 38 by omega, b4, b5, b6, fun i hi => ?_⟩
  · rw [go _ (by omega) (by omega)]; exact R.t
  · rw [go _ (by omega) (by omega)]; exact R.nx
  · rw [va_us]; rfl
  · rw [go _ (by omega) (by omega)]; exact R.n
  · rw [go _ (by omega) (by omega)]; exact R.pe
  · rw [go _ (by omega) (by omega)]; exact R.pf
  · rw [go _ (by omega) (by omega)]; exact R.pc
  · intro z h1 h2; rw [go _ (by omega) (by omega)]; exact R.bd h1 h2
  · intro z h1 h2; rw [go _ (by omega) (by omega)]; exact R.wt h1 h2
  · intro u hu
    have hu : u < m.n := hu
    rw [go _ (by omega) (by omega), go _ (by omega) (by omega)]; exact ⟨R.d hu, R.v hu⟩
  · intro e he
    have he : e < m.pc := he
    rw [go _ (by omega) (by omega)]; exact R.tg he
  · intro i hi
    have hi : i < m.c - 1 := hi
    show _ = q_sf m.c k m.id i ∧ _ = nI (q_sf m.c k m.dy i) ∧ _ = nI (q_sf m.c k m.pn i) ∧ ∀ p, p < q_sf m.c k m.pn i → _ = q_sf m.c k m.mn i p ∧ _ = q_sf m.c k m.it i p
    rw [q_sf_e, q_sf_e, q_sf_e, q_sf_e, q_sf_e]
    by_cases e : k ≤ i
    · rw [if_pos ⟨e, hi⟩]
      have h8 := b7 (i + 1) (by omega)
      refine ⟨?_, ?_, ?_, fun p hp => ⟨?_, ?_⟩⟩
      · rw [gi _ (by omega) (by omega), show 100 + 20 * i + 20 = 100 + 20 * (i + 1) by omega]; exact R.id (by omega)
      · rw [gi _ (by omega) (by omega), show 101 + 20 * i + 20 = 101 + 20 * (i + 1) by omega]; exact R.dy (by omega)
      · rw [gi _ (by omega) (by omega), show 102 + 20 * i + 20 = 102 + 20 * (i + 1) by omega]; exact R.pn (by omega)
      · rw [gi _ (by omega) (by omega), show 103 + 20 * i + p + 20 = 103 + 20 * (i + 1) + p by omega]; exact R.mn (by omega) hp
      · rw [gi _ (by omega) (by omega), show 111 + 20 * i + p + 20 = 111 + 20 * (i + 1) + p by omega]; exact R.it (by omega) hp
    · rw [if_neg (fun h => e h.1)]
      have h8 := b7 i (by omega)
      refine ⟨?_, ?_, ?_, fun p hp => ⟨?_, ?_⟩⟩
      · rw [go _ (by omega) (by omega)]; exact R.id (by omega)
      · rw [go _ (by omega) (by omega)]; exact R.dy (by omega)
      · rw [go _ (by omega) (by omega)]; exact R.pn (by omega)
      · rw [go _ (by omega) (by omega)]; exact R.mn (by omega) hp
      · rw [go _ (by omega) (by omega)]; exact R.it (by omega) hp
  · have hi : i < m.c - 1 := hi
    show q_sf m.c k m.pn i ≤ 8 ∧ q_sf m.c k m.dy i ≤ 199
    rw [q_sf_e, q_sf_e]
    exact b7 _ (by split <;> omega)
