/-! WHAT A CHANGE DOES TO THE NET -/
theorem q_nPass {N : Nat → Int32} {m : q_W} {ρ : Nat → Nat} (R : q_nr N m ρ) (B : q_bd m) {t : Nat} (ht : t ≤ 199) : q_nr (va_up (va_up N (0) (nI t)) (899) (nI 1)) (m.sA t) ρ ∧ q_bd (m.sA t) := by
  obtain ⟨b1, b2, b3, b4, b5, b6, b7⟩ := id B
  refine ⟨⟨?_, ?_, ?_, ?_, ?_, ?_, ?_, ?_, ?_, ?_, ?_, ?_, ?_⟩, ?_⟩
  · rw [va_un _ _ (by omega), va_us]; rfl
  · rw [va_un _ _ (by omega), va_un _ _ (by omega)]; exact R.nx
  · rw [va_un _ _ (by omega), va_un _ _ (by omega)]; exact R.c
  · rw [va_un _ _ (by omega), va_un _ _ (by omega)]; exact R.n
  · rw [va_un _ _ (by omega), va_un _ _ (by omega)]; exact R.pe
  · rw [va_un _ _ (by omega), va_un _ _ (by omega)]; exact R.pf
  · rw [va_un _ _ (by omega), va_un _ _ (by omega)]; exact R.pc
  · exact fun z h1 h2 => by rw [va_un _ _ (by omega), va_un _ _ (by omega)]; exact R.bd h1 h2
  · exact fun z h1 h2 => by rw [va_un _ _ (by omega), va_un _ _ (by omega)]; exact R.wt h1 h2
  · exact R.bij
  · exact fun u (hu : u < m.n) => ⟨by rw [va_un _ _ (by omega), va_un _ _ (by omega)]; exact R.d hu, by rw [va_un _ _ (by omega), va_un _ _ (by omega)]; exact R.v hu⟩
  · exact fun e (he : e < m.pc) => by rw [va_un _ _ (by omega), va_un _ _ (by omega)]; exact R.tg he
  · intro i hi
    have hi : i < m.c := hi
    have h8 := b7 i hi
    exact ⟨by rw [va_un _ _ (by omega), va_un _ _ (by omega)]; exact R.id hi, by rw [va_un _ _ (by omega), va_un _ _ (by omega)]; exact R.dy hi, by rw [va_un _ _ (by omega), va_un _ _ (by omega)]; exact R.pn hi, fun p (hp : p < m.pn i) => ⟨by rw [va_un _ _ (by omega), va_un _ _ (by omega)]; exact R.mn hi hp, by rw [va_un _ _ (by omega), va_un _ _ (by omega)]; exact R.it hi hp⟩⟩
  · exact ⟨ht, b2, b3, b4, b5, b6, b7⟩
theorem q_nWt {N : Nat → Int32} {m : q_W} {ρ : Nat → Nat} (R : q_nr N m ρ) (B : q_bd m) {z : Nat} (hz1 : 1 ≤ z) (hz5 : z ≤ 5) {x : Int32} : q_nr (va_up (va_up N (30 + z) (x)) (899) (nI 1)) (m.sZ m.bd (va_up m.wt z x)) ρ ∧ q_bd (m.sZ m.bd (va_up m.wt z x)) := by
  obtain ⟨b1, b2, b3, b4, b5, b6, b7⟩ := id B
  refine ⟨⟨?_, ?_, ?_, ?_, ?_, ?_, ?_, ?_, ?_, ?_, ?_, ?_, ?_⟩, ?_⟩
  · rw [va_un _ _ (by omega), va_un _ _ (by omega)]; exact R.t
  · rw [va_un _ _ (by omega), va_un _ _ (by omega)]; exact R.nx
  · rw [va_un _ _ (by omega), va_un _ _ (by omega)]; exact R.c
  · rw [va_un _ _ (by omega), va_un _ _ (by omega)]; exact R.n
  · rw [va_un _ _ (by omega), va_un _ _ (by omega)]; exact R.pe
  · rw [va_un _ _ (by omega), va_un _ _ (by omega)]; exact R.pf
  · rw [va_un _ _ (by omega), va_un _ _ (by omega)]; exact R.pc
  · exact fun z h1 h2 => by rw [va_un _ _ (by omega), va_un _ _ (by omega)]; exact R.bd h1 h2
  · intro y h1 h2
    rw [va_un _ _ (by omega)]
    show va_up N (30 + z) x (30 + y) = va_up m.wt z x y
    by_cases e : y = z
    · subst e; rw [va_us, va_us]
    · rw [va_un _ _ (by omega), va_un _ _ e]; exact R.wt h1 h2
  · exact R.bij
  · exact fun u (hu : u < m.n) => ⟨by rw [va_un _ _ (by omega), va_un _ _ (by omega)]; exact R.d hu, by rw [va_un _ _ (by omega), va_un _ _ (by omega)]; exact R.v hu⟩
  · exact fun e (he : e < m.pc) => by rw [va_un _ _ (by omega), va_un _ _ (by omega)]; exact R.tg he
  · intro i hi
    have hi : i < m.c := hi
    have h8 := b7 i hi
    exact ⟨by rw [va_un _ _ (by omega), va_un _ _ (by omega)]; exact R.id hi, by rw [va_un _ _ (by omega), va_un _ _ (by omega)]; exact R.dy hi, by rw [va_un _ _ (by omega), va_un _ _ (by omega)]; exact R.pn hi, fun p (hp : p < m.pn i) => ⟨by rw [va_un _ _ (by omega), va_un _ _ (by omega)]; exact R.mn hi hp, by rw [va_un _ _ (by omega), va_un _ _ (by omega)]; exact R.it hi hp⟩⟩
  · exact ⟨b1, b2, b3, b4, b5, b6, b7⟩
theorem q_nBd {N : Nat → Int32} {m : q_W} {ρ : Nat → Nat} (R : q_nr N m ρ) (B : q_bd m) {z : Nat} (hz1 : 2 ≤ z) (hz5 : z ≤ 5) {x : Int32} : q_nr (va_up (va_up N (20 + z) (x)) (899) (nI 1)) (m.sZ (va_up m.bd z x) m.wt) ρ ∧ q_bd (m.sZ (va_up m.bd z x) m.wt) := by
  obtain ⟨b1, b2, b3, b4, b5, b6, b7⟩ := id B
  refine ⟨⟨?_, ?_, ?_, ?_, ?_, ?_, ?_, ?_, ?_, ?_, ?_, ?_, ?_⟩, ?_⟩
  · rw [va_un _ _ (by omega), va_un _ _ (by omega)]; exact R.t
  · rw [va_un _ _ (by omega), va_un _ _ (by omega)]; exact R.nx
  · rw [va_un _ _ (by omega), va_un _ _ (by omega)]; exact R.c
  · rw [va_un _ _ (by omega), va_un _ _ (by omega)]; exact R.n
  · rw [va_un _ _ (by omega), va_un _ _ (by omega)]; exact R.pe
  · rw [va_un _ _ (by omega), va_un _ _ (by omega)]; exact R.pf
  · rw [va_un _ _ (by omega), va_un _ _ (by omega)]; exact R.pc
  · intro y h1 h2
    rw [va_un _ _ (by omega)]
    show va_up N (20 + z) x (20 + y) = va_up m.bd z x y
    by_cases e : y = z
    · subst e; rw [va_us, va_us]
    · rw [va_un _ _ (by omega), va_un _ _ e]; exact R.bd h1 h2
  · exact fun z h1 h2 => by rw [va_un _ _ (by omega), va_un _ _ (by omega)]; exact R.wt h1 h2
  · exact R.bij
  · exact fun u (hu : u < m.n) => ⟨by rw [va_un _ _ (by omega), va_un _ _ (by omega)]; exact R.d hu, by rw [va_un _ _ (by omega), va_un _ _ (by omega)]; exact R.v hu⟩
  · exact fun e (he : e < m.pc) => by rw [va_un _ _ (by omega), va_un _ _ (by omega)]; exact R.tg he
  · intro i hi
    have hi : i < m.c := hi
    have h8 := b7 i hi
    exact ⟨by rw [va_un _ _ (by omega), va_un _ _ (by omega)]; exact R.id hi, by rw [va_un _ _ (by omega), va_un _ _ (by omega)]; exact R.dy hi, by rw [va_un _ _ (by omega), va_un _ _ (by omega)]; exact R.pn hi, fun p (hp : p < m.pn i) => ⟨by rw [va_un _ _ (by omega), va_un _ _ (by omega)]; exact R.mn hi hp, by rw [va_un _ _ (by omega), va_un _ _ (by omega)]; exact R.it hi hp⟩⟩
  · exact ⟨b1, b2, b3, b4, b5, b6, b7⟩
theorem q_nPlan {N : Nat → Int32} {m : q_W} {ρ : Nat → Nat} (R : q_nr N m ρ) (B : q_bd m)  : q_nr (va_up (va_up (va_up (va_up N (4) (nI 1)) (5) (nI m.t)) (6) (nI 0)) (899) (nI 1)) (m.sP 1 m.t 0 m.tg) ρ ∧ q_bd (m.sP 1 m.t 0 m.tg) := by
  obtain ⟨b1, b2, b3, b4, b5, b6, b7⟩ := id B
  refine ⟨⟨?_, ?_, ?_, ?_, ?_, ?_, ?_, ?_, ?_, ?_, ?_, ?_, ?_⟩, ?_⟩
  · rw [va_un _ _ (by omega), va_un _ _ (by omega), va_un _ _ (by omega), va_un _ _ (by omega)]; exact R.t
  · rw [va_un _ _ (by omega), va_un _ _ (by omega), va_un _ _ (by omega), va_un _ _ (by omega)]; exact R.nx
  · rw [va_un _ _ (by omega), va_un _ _ (by omega), va_un _ _ (by omega), va_un _ _ (by omega)]; exact R.c
  · rw [va_un _ _ (by omega), va_un _ _ (by omega), va_un _ _ (by omega), va_un _ _ (by omega)]; exact R.n
  · rw [va_un _ _ (by omega), va_un _ _ (by omega), va_un _ _ (by omega), va_us]; rfl
  · rw [va_un _ _ (by omega), va_un _ _ (by omega), va_us]; rfl
  · rw [va_un _ _ (by omega), va_us]; rfl
  · exact fun z h1 h2 => by rw [va_un _ _ (by omega), va_un _ _ (by omega), va_un _ _ (by omega), va_un _ _ (by omega)]; exact R.bd h1 h2
  · exact fun z h1 h2 => by rw [va_un _ _ (by omega), va_un _ _ (by omega), va_un _ _ (by omega), va_un _ _ (by omega)]; exact R.wt h1 h2
  · exact R.bij
  · exact fun u (hu : u < m.n) => ⟨by rw [va_un _ _ (by omega), va_un _ _ (by omega), va_un _ _ (by omega), va_un _ _ (by omega)]; exact R.d hu, by rw [va_un _ _ (by omega), va_un _ _ (by omega), va_un _ _ (by omega), va_un _ _ (by omega)]; exact R.v hu⟩
  · exact fun e he => absurd he (Nat.not_lt_zero e)
  · intro i hi
    have hi : i < m.c := hi
    have h8 := b7 i hi
    exact ⟨by rw [va_un _ _ (by omega), va_un _ _ (by omega), va_un _ _ (by omega), va_un _ _ (by omega)]; exact R.id hi, by rw [va_un _ _ (by omega), va_un _ _ (by omega), va_un _ _ (by omega), va_un _ _ (by omega)]; exact R.dy hi, by rw [va_un _ _ (by omega), va_un _ _ (by omega), va_un _ _ (by omega), va_un _ _ (by omega)]; exact R.pn hi, fun p (hp : p < m.pn i) => ⟨by rw [va_un _ _ (by omega), va_un _ _ (by omega), va_un _ _ (by omega), va_un _ _ (by omega)]; exact R.mn hi hp, by rw [va_un _ _ (by omega), va_un _ _ (by omega), va_un _ _ (by omega), va_un _ _ (by omega)]; exact R.it hi hp⟩⟩
  · exact ⟨b1, b2, b3, Nat.le_refl 1, b1, Nat.zero_le _, b7⟩
theorem q_nTarg {N : Nat → Int32} {m : q_W} {ρ : Nat → Nat} (R : q_nr N m ρ) (B : q_bd m) {x : Int32} (hp : m.pc < 28) : q_nr (va_up (va_up (va_up N (60 + m.pc) (x)) (6) (nI (m.pc + 1))) (899) (nI 1)) (m.sP m.pe m.pf (m.pc + 1) (va_up m.tg m.pc x)) ρ ∧ q_bd (m.sP m.pe m.pf (m.pc + 1) (va_up m.tg m.pc x)) := by
  obtain ⟨b1, b2, b3, b4, b5, b6, b7⟩ := id B
  refine ⟨⟨?_, ?_, ?_, ?_, ?_, ?_, ?_, ?_, ?_, ?_, ?_, ?_, ?_⟩, ?_⟩
  · rw [va_un _ _ (by omega), va_un _ _ (by omega), va_un _ _ (by omega)]; exact R.t
  · rw [va_un _ _ (by omega), va_un _ _ (by omega), va_un _ _ (by omega)]; exact R.nx
  · rw [va_un _ _ (by omega), va_un _ _ (by omega), va_un _ _ (by omega)]; exact R.c
  · rw [va_un _ _ (by omega), va_un _ _ (by omega), va_un _ _ (by omega)]; exact R.n
  · rw [va_un _ _ (by omega), va_un _ _ (by omega), va_un _ _ (by omega)]; exact R.pe
  · rw [va_un _ _ (by omega), va_un _ _ (by omega), va_un _ _ (by omega)]; exact R.pf
  · rw [va_un _ _ (by omega), va_us]; rfl
  · exact fun z h1 h2 => by rw [va_un _ _ (by omega), va_un _ _ (by omega), va_un _ _ (by omega)]; exact R.bd h1 h2
  · exact fun z h1 h2 => by rw [va_un _ _ (by omega), va_un _ _ (by omega), va_un _ _ (by omega)]; exact R.wt h1 h2
  · exact R.bij
  · exact fun u (hu : u < m.n) => ⟨by rw [va_un _ _ (by omega), va_un _ _ (by omega), va_un _ _ (by omega)]; exact R.d hu, by rw [va_un _ _ (by omega), va_un _ _ (by omega), va_un _ _ (by omega)]; exact R.v hu⟩
  · intro e he
    have he : e < m.pc + 1 := he
    rw [va_un _ _ (by omega), va_un _ _ (by omega)]
    show va_up N (60 + m.pc) x (60 + e) = va_up m.tg m.pc x e
    by_cases e9 : e = m.pc
    · subst e9; rw [va_us, va_us]
    · rw [va_un _ _ (by omega), va_un _ _ e9]; exact R.tg (by omega)
  · intro i hi
    have hi : i < m.c := hi
    have h8 := b7 i hi
    exact ⟨by rw [va_un _ _ (by omega), va_un _ _ (by omega), va_un _ _ (by omega)]; exact R.id hi, by rw [va_un _ _ (by omega), va_un _ _ (by omega), va_un _ _ (by omega)]; exact R.dy hi, by rw [va_un _ _ (by omega), va_un _ _ (by omega), va_un _ _ (by omega)]; exact R.pn hi, fun p (hp : p < m.pn i) => ⟨by rw [va_un _ _ (by omega), va_un _ _ (by omega), va_un _ _ (by omega)]; exact R.mn hi hp, by rw [va_un _ _ (by omega), va_un _ _ (by omega), va_un _ _ (by omega)]; exact R.it hi hp⟩⟩
  · exact ⟨b1, b2, b3, b4, b5, hp, b7⟩
theorem q_nTest {N : Nat → Int32} {m : q_W} {ρ : Nat → Nat} (R : q_nr N m ρ) (B : q_bd m) {d x : Int32} (hn : m.n < 10) : q_nr (va_up (va_up (va_up (va_up N (40 + 2 * m.n) (d)) (41 + 2 * m.n) (x)) (3) (nI (m.n + 1))) (899) (nI 1)) (m.sT (m.n + 1) (va_up m.d m.n d) (va_up m.v m.n x)) (fun t => if t = m.n then m.n else ρ t) ∧ q_bd (m.sT (m.n + 1) (va_up m.d m.n d) (va_up m.v m.n x)) := by
  obtain ⟨b1, b2, b3, b4, b5, b6, b7⟩ := id B
  refine ⟨⟨?_, ?_, ?_, ?_, ?_, ?_, ?_, ?_, ?_, ?_, ?_, ?_, ?_⟩, ?_⟩
  · rw [va_un _ _ (by omega), va_un _ _ (by omega), va_un _ _ (by omega), va_un _ _ (by omega)]; exact R.t
  · rw [va_un _ _ (by omega), va_un _ _ (by omega), va_un _ _ (by omega), va_un _ _ (by omega)]; exact R.nx
  · rw [va_un _ _ (by omega), va_un _ _ (by omega), va_un _ _ (by omega), va_un _ _ (by omega)]; exact R.c
  · rw [va_un _ _ (by omega), va_us]; rfl
  · rw [va_un _ _ (by omega), va_un _ _ (by omega), va_un _ _ (by omega), va_un _ _ (by omega)]; exact R.pe
  · rw [va_un _ _ (by omega), va_un _ _ (by omega), va_un _ _ (by omega), va_un _ _ (by omega)]; exact R.pf
  · rw [va_un _ _ (by omega), va_un _ _ (by omega), va_un _ _ (by omega), va_un _ _ (by omega)]; exact R.pc
  · exact fun z h1 h2 => by rw [va_un _ _ (by omega), va_un _ _ (by omega), va_un _ _ (by omega), va_un _ _ (by omega)]; exact R.bd h1 h2
  · exact fun z h1 h2 => by rw [va_un _ _ (by omega), va_un _ _ (by omega), va_un _ _ (by omega), va_un _ _ (by omega)]; exact R.wt h1 h2
  · have r1 := R.bij.1
    have r2 := R.bij.2
    refine ⟨fun i hi => ?_, fun i hi j hj e => ?_⟩
    · have hi : i < m.n + 1 := hi
      show (if _ then _ else _) < m.n + 1
      split
      · omega
      · have := r1 i (by omega); omega
    · have hi : i < m.n + 1 := hi
      have hj : j < m.n + 1 := hj
      have e : (if i = m.n then m.n else ρ i) = (if j = m.n then m.n else ρ j) := e
      by_cases e1 : i = m.n
      · by_cases e2 : j = m.n
        · omega
        · rw [if_pos e1, if_neg e2] at e; have := r1 j (by omega); omega
      · by_cases e2 : j = m.n
        · rw [if_neg e1, if_pos e2] at e; have := r1 i (by omega); omega
        · rw [if_neg e1, if_neg e2] at e; exact r2 i (by omega) j (by omega) e
  · intro t ht
    have ht : t < m.n + 1 := ht
    show _ = va_up m.d m.n d (if t = m.n then m.n else ρ t) ∧ _ = va_up m.v m.n x (if t = m.n then m.n else ρ t)
    by_cases e : t = m.n
    · subst e
      rw [if_pos rfl, va_us, va_us]
      exact ⟨by rw [va_un _ _ (by omega), va_un _ _ (by omega), va_un _ _ (by omega), va_us], by rw [va_un _ _ (by omega), va_un _ _ (by omega), va_us]⟩
    · rw [if_neg e]
      have h8 := R.bij.1 t (by omega)
      rw [va_un m.d _ (by omega), va_un m.v _ (by omega)]
      exact ⟨by rw [va_un _ _ (by omega), va_un _ _ (by omega), va_un _ _ (by omega), va_un _ _ (by omega)]; exact R.d (by omega), by rw [va_un _ _ (by omega), va_un _ _ (by omega), va_un _ _ (by omega), va_un _ _ (by omega)]; exact R.v (by omega)⟩
  · exact fun e (he : e < m.pc) => by rw [va_un _ _ (by omega), va_un _ _ (by omega), va_un _ _ (by omega), va_un _ _ (by omega)]; exact R.tg he
  · intro i hi
    have hi : i < m.c := hi
    have h8 := b7 i hi
    exact ⟨by rw [va_un _ _ (by omega), va_un _ _ (by omega), va_un _ _ (by omega), va_un _ _ (by omega)]; exact R.id hi, by rw [va_un _ _ (by omega), va_un _ _ (by omega), va_un _ _ (by omega), va_un _ _ (by omega)]; exact R.dy hi, by rw [va_un _ _ (by omega), va_un _ _ (by omega), va_un _ _ (by omega), va_un _ _ (by omega)]; exact R.pn hi, fun p (hp : p < m.pn i) => ⟨by rw [va_un _ _ (by omega), va_un _ _ (by omega), va_un _ _ (by omega), va_un _ _ (by omega)]; exact R.mn hi hp, by rw [va_un _ _ (by omega), va_un _ _ (by omega), va_un _ _ (by omega), va_un _ _ (by omega)]; exact R.it hi hp⟩⟩
  · exact ⟨b1, hn, b3, b4, b5, b6, b7⟩
theorem q_nSess {N : Nat → Int32} {m : q_W} {ρ : Nat → Nat} (R : q_nr N m ρ) (B : q_bd m) {d : Nat} (hc : m.c < 38) (hd : d ≤ 199) : q_nr (va_up (va_up (va_up (va_up (va_up (va_up N (100 + 20 * m.c) (m.nx)) (100 + 20 * m.c + 1) (nI d)) (100 + 20 * m.c + 2) (nI 0)) (2) (nI (m.c + 1))) (1) (m.nx + nI 1)) (899) (nI 1)) (m.adS d) ρ ∧ q_bd (m.adS d) := by
  obtain ⟨b1, b2, b3, b4, b5, b6, b7⟩ := id B
  refine ⟨⟨?_, ?_, ?_, ?_, ?_, ?_, ?_, ?_, ?_, ?_, ?_, ?_, ?_⟩, ?_⟩
  · rw [va_un _ _ (by omega), va_un _ _ (by omega), va_un _ _ (by omega), va_un _ _ (by omega), va_un _ _ (by omega), va_un _ _ (by omega)]; exact R.t
  · rw [va_un _ _ (by omega), va_us]; rfl
  · rw [va_un _ _ (by omega), va_un _ _ (by omega), va_us]; rfl
  · rw [va_un _ _ (by omega), va_un _ _ (by omega), va_un _ _ (by omega), va_un _ _ (by omega), va_un _ _ (by omega), va_un _ _ (by omega)]; exact R.n
  · rw [va_un _ _ (by omega), va_un _ _ (by omega), va_un _ _ (by omega), va_un _ _ (by omega), va_un _ _ (by omega), va_un _ _ (by omega)]; exact R.pe
  · rw [va_un _ _ (by omega), va_un _ _ (by omega), va_un _ _ (by omega), va_un _ _ (by omega), va_un _ _ (by omega), va_un _ _ (by omega)]; exact R.pf
  · rw [va_un _ _ (by omega), va_un _ _ (by omega), va_un _ _ (by omega), va_un _ _ (by omega), va_un _ _ (by omega), va_un _ _ (by omega)]; exact R.pc
  · exact fun z h1 h2 => by rw [va_un _ _ (by omega), va_un _ _ (by omega), va_un _ _ (by omega), va_un _ _ (by omega), va_un _ _ (by omega), va_un _ _ (by omega)]; exact R.bd h1 h2
  · exact fun z h1 h2 => by rw [va_un _ _ (by omega), va_un _ _ (by omega), va_un _ _ (by omega), va_un _ _ (by omega), va_un _ _ (by omega), va_un _ _ (by omega)]; exact R.wt h1 h2
  · exact R.bij
  · exact fun u (hu : u < m.n) => ⟨by rw [va_un _ _ (by omega), va_un _ _ (by omega), va_un _ _ (by omega), va_un _ _ (by omega), va_un _ _ (by omega), va_un _ _ (by omega)]; exact R.d hu, by rw [va_un _ _ (by omega), va_un _ _ (by omega), va_un _ _ (by omega), va_un _ _ (by omega), va_un _ _ (by omega), va_un _ _ (by omega)]; exact R.v hu⟩
  · exact fun e (he : e < m.pc) => by rw [va_un _ _ (by omega), va_un _ _ (by omega), va_un _ _ (by omega), va_un _ _ (by omega), va_un _ _ (by omega), va_un _ _ (by omega)]; exact R.tg he
  · intro k hk
    have hk : k < m.c + 1 := hk
    show _ = va_up m.id m.c m.nx k ∧ _ = nI (va_up m.dy m.c d k) ∧ _ = nI (va_up m.pn m.c 0 k) ∧ ∀ p, p < va_up m.pn m.c 0 k → _ = m.mn k p ∧ _ = m.it k p
    by_cases e : k = m.c
    · subst e
      rw [va_us, va_us, va_us]
      exact ⟨by rw [va_un _ _ (by omega), va_un _ _ (by omega), va_un _ _ (by omega), va_un _ _ (by omega), va_un _ _ (by omega), va_us], by rw [va_un _ _ (by omega), va_un _ _ (by omega), va_un _ _ (by omega), va_un _ _ (by omega), show 101 + 20 * m.c = 100 + 20 * m.c + 1 by omega, va_us], by rw [va_un _ _ (by omega), va_un _ _ (by omega), va_un _ _ (by omega), show 102 + 20 * m.c = 100 + 20 * m.c + 2 by omega, va_us], fun p hp => absurd hp (Nat.not_lt_zero p)⟩
    · rw [va_un m.id _ e, va_un m.dy _ e, va_un m.pn _ e]
      have h8 := b7 k (by omega)
      have hk : k < m.c := by omega
      exact ⟨by rw [va_un _ _ (by omega), va_un _ _ (by omega), va_un _ _ (by omega), va_un _ _ (by omega), va_un _ _ (by omega), va_un _ _ (by omega)]; exact R.id hk, by rw [va_un _ _ (by omega), va_un _ _ (by omega), va_un _ _ (by omega), va_un _ _ (by omega), va_un _ _ (by omega), va_un _ _ (by omega)]; exact R.dy hk, by rw [va_un _ _ (by omega), va_un _ _ (by omega), va_un _ _ (by omega), va_un _ _ (by omega), va_un _ _ (by omega), va_un _ _ (by omega)]; exact R.pn hk, fun p hp => ⟨by rw [va_un _ _ (by omega), va_un _ _ (by omega), va_un _ _ (by omega), va_un _ _ (by omega), va_un _ _ (by omega), va_un _ _ (by omega)]; exact R.mn hk hp, by rw [va_un _ _ (by omega), va_un _ _ (by omega), va_un _ _ (by omega), va_un _ _ (by omega), va_un _ _ (by omega), va_un _ _ (by omega)]; exact R.it hk hp⟩⟩
  · refine ⟨b1, b2, hc, b4, b5, b6, fun k hk => ?_⟩
    have hk : k < m.c + 1 := hk
    show va_up m.pn m.c 0 k ≤ 8 ∧ va_up m.dy m.c d k ≤ 199
    by_cases e : k = m.c
    · subst e; rw [va_us, va_us]; omega
    · rw [va_un m.pn _ e, va_un m.dy _ e]; exact b7 k (by omega)
theorem q_nMove {N : Nat → Int32} {m : q_W} {ρ : Nat → Nat} (R : q_nr N m ρ) (B : q_bd m) {k d : Nat} (hk9 : k < m.c) (hd : d ≤ 199) : q_nr (va_up (va_up N (101 + 20 * k) (nI d)) (899) (nI 1)) (m.movS k d) ρ ∧ q_bd (m.movS k d) := by
  obtain ⟨b1, b2, b3, b4, b5, b6, b7⟩ := id B
  refine ⟨⟨?_, ?_, ?_, ?_, ?_, ?_, ?_, ?_, ?_, ?_, ?_, ?_, ?_⟩, ?_⟩
  · rw [va_un _ _ (by omega), va_un _ _ (by omega)]; exact R.t
  · rw [va_un _ _ (by omega), va_un _ _ (by omega)]; exact R.nx
  · rw [va_un _ _ (by omega), va_un _ _ (by omega)]; exact R.c
  · rw [va_un _ _ (by omega), va_un _ _ (by omega)]; exact R.n
  · rw [va_un _ _ (by omega), va_un _ _ (by omega)]; exact R.pe
  · rw [va_un _ _ (by omega), va_un _ _ (by omega)]; exact R.pf
  · rw [va_un _ _ (by omega), va_un _ _ (by omega)]; exact R.pc
  · exact fun z h1 h2 => by rw [va_un _ _ (by omega), va_un _ _ (by omega)]; exact R.bd h1 h2
  · exact fun z h1 h2 => by rw [va_un _ _ (by omega), va_un _ _ (by omega)]; exact R.wt h1 h2
  · exact R.bij
  · exact fun u (hu : u < m.n) => ⟨by rw [va_un _ _ (by omega), va_un _ _ (by omega)]; exact R.d hu, by rw [va_un _ _ (by omega), va_un _ _ (by omega)]; exact R.v hu⟩
  · exact fun e (he : e < m.pc) => by rw [va_un _ _ (by omega), va_un _ _ (by omega)]; exact R.tg he
  · intro i hi
    have hi : i < m.c := hi
    have h8 := b7 i hi
    have h7 := b7 k hk9
    show _ = m.id i ∧ _ = nI (va_up m.dy k d i) ∧ _ = nI (m.pn i) ∧ ∀ p, p < m.pn i → _ = m.mn i p ∧ _ = m.it i p
    refine ⟨by rw [va_un _ _ (by omega), va_un _ _ (by omega)]; exact R.id hi, ?_, by rw [va_un _ _ (by omega), va_un _ _ (by omega)]; exact R.pn hi, fun p hp => ⟨by rw [va_un _ _ (by omega), va_un _ _ (by omega)]; exact R.mn hi hp, by rw [va_un _ _ (by omega), va_un _ _ (by omega)]; exact R.it hi hp⟩⟩
    by_cases e : i = k
    · subst e; rw [va_un _ _ (by omega), va_us, va_us]
    · rw [va_un _ _ (by omega), va_un _ _ (by omega), va_un m.dy _ e]; exact R.dy hi
  · refine ⟨b1, b2, b3, b4, b5, b6, fun i hi => ?_⟩
    show m.pn i ≤ 8 ∧ va_up m.dy k d i ≤ 199
    by_cases e : i = k
    · subst e; rw [va_us]; exact ⟨(b7 i hi).1, hd⟩
    · rw [va_un m.dy _ e]; exact b7 i hi
theorem q_nClr {N : Nat → Int32} {m : q_W} {ρ : Nat → Nat} (R : q_nr N m ρ) (B : q_bd m) {k : Nat} (hk9 : k < m.c) : q_nr (va_up (va_up N (899) (nI 1)) (102 + 20 * k) (nI 0)) (m.clrP k) ρ ∧ q_bd (m.clrP k) := by
  obtain ⟨b1, b2, b3, b4, b5, b6, b7⟩ := id B
  refine ⟨⟨?_, ?_, ?_, ?_, ?_, ?_, ?_, ?_, ?_, ?_, ?_, ?_, ?_⟩, ?_⟩
  · rw [va_un _ _ (by omega), va_un _ _ (by omega)]; exact R.t
  · rw [va_un _ _ (by omega), va_un _ _ (by omega)]; exact R.nx
  · rw [va_un _ _ (by omega), va_un _ _ (by omega)]; exact R.c
  · rw [va_un _ _ (by omega), va_un _ _ (by omega)]; exact R.n
  · rw [va_un _ _ (by omega), va_un _ _ (by omega)]; exact R.pe
  · rw [va_un _ _ (by omega), va_un _ _ (by omega)]; exact R.pf
  · rw [va_un _ _ (by omega), va_un _ _ (by omega)]; exact R.pc
  · exact fun z h1 h2 => by rw [va_un _ _ (by omega), va_un _ _ (by omega)]; exact R.bd h1 h2
  · exact fun z h1 h2 => by rw [va_un _ _ (by omega), va_un _ _ (by omega)]; exact R.wt h1 h2
  · exact R.bij
  · exact fun u (hu : u < m.n) => ⟨by rw [va_un _ _ (by omega), va_un _ _ (by omega)]; exact R.d hu, by rw [va_un _ _ (by omega), va_un _ _ (by omega)]; exact R.v hu⟩
  · exact fun e (he : e < m.pc) => by rw [va_un _ _ (by omega), va_un _ _ (by omega)]; exact R.tg he
  · intro i hi
    have hi : i < m.c := hi
    have h8 := b7 i hi
    have h7 := b7 k hk9
    show _ = m.id i ∧ _ = nI (m.dy i) ∧ _ = nI (va_up m.pn k 0 i) ∧ ∀ p, p < va_up m.pn k 0 i → _ = m.mn i p ∧ _ = m.it i p
    by_cases e : i = k
    · subst e
      rw [va_us m.pn]
      exact ⟨by rw [va_un _ _ (by omega), va_un _ _ (by omega)]; exact R.id hi, by rw [va_un _ _ (by omega), va_un _ _ (by omega)]; exact R.dy hi, by rw [va_us], fun p hp => absurd hp (Nat.not_lt_zero p)⟩
    · rw [va_un m.pn _ e]
      exact ⟨by rw [va_un _ _ (by omega), va_un _ _ (by omega)]; exact R.id hi, by rw [va_un _ _ (by omega), va_un _ _ (by omega)]; exact R.dy hi, by rw [va_un _ _ (by omega), va_un _ _ (by omega)]; exact R.pn hi, fun p hp => ⟨by rw [va_un _ _ (by omega), va_un _ _ (by omega)]; exact R.mn hi hp, by rw [va_un _ _ (by omega), va_un _ _ (by omega)]; exact R.it hi hp⟩⟩
  · refine ⟨b1, b2, b3, b4, b5, b6, fun i hi => ?_⟩
    show va_up m.pn k 0 i ≤ 8 ∧ m.dy i ≤ 199
    by_cases e : i = k
    · subst e; rw [va_us]; exact ⟨Nat.zero_le _, (b7 i hi).2⟩
    · rw [va_un m.pn _ e]; exact b7 i hi
theorem q_nPart {N : Nat → Int32} {m : q_W} {ρ : Nat → Nat} (R : q_nr N m ρ) (B : q_bd m) {k : Nat} {x y : Int32} (hk9 : k < m.c) (hp9 : m.pn k < 8) : q_nr (va_up (va_up (va_up (va_up N (100 + 20 * k + 3 + m.pn k) (x)) (100 + 20 * k + 11 + m.pn k) (y)) (100 + 20 * k + 2) (nI (m.pn k + 1))) (899) (nI 1)) (m.addP k x y) ρ ∧ q_bd (m.addP k x y) := by
  obtain ⟨b1, b2, b3, b4, b5, b6, b7⟩ := id B
  refine ⟨⟨?_, ?_, ?_, ?_, ?_, ?_, ?_, ?_, ?_, ?_, ?_, ?_, ?_⟩, ?_⟩
  · rw [va_un _ _ (by omega), va_un _ _ (by omega), va_un _ _ (by omega), va_un _ _ (by omega)]; exact R.t
  · rw [va_un _ _ (by omega), va_un _ _ (by omega), va_un _ _ (by omega), va_un _ _ (by omega)]; exact R.nx
  · rw [va_un _ _ (by omega), va_un _ _ (by omega), va_un _ _ (by omega), va_un _ _ (by omega)]; exact R.c
  · rw [va_un _ _ (by omega), va_un _ _ (by omega), va_un _ _ (by omega), va_un _ _ (by omega)]; exact R.n
  · rw [va_un _ _ (by omega), va_un _ _ (by omega), va_un _ _ (by omega), va_un _ _ (by omega)]; exact R.pe
  · rw [va_un _ _ (by omega), va_un _ _ (by omega), va_un _ _ (by omega), va_un _ _ (by omega)]; exact R.pf
  · rw [va_un _ _ (by omega), va_un _ _ (by omega), va_un _ _ (by omega), va_un _ _ (by omega)]; exact R.pc
  · exact fun z h1 h2 => by rw [va_un _ _ (by omega), va_un _ _ (by omega), va_un _ _ (by omega), va_un _ _ (by omega)]; exact R.bd h1 h2
  · exact fun z h1 h2 => by rw [va_un _ _ (by omega), va_un _ _ (by omega), va_un _ _ (by omega), va_un _ _ (by omega)]; exact R.wt h1 h2
  · exact R.bij
  · exact fun u (hu : u < m.n) => ⟨by rw [va_un _ _ (by omega), va_un _ _ (by omega), va_un _ _ (by omega), va_un _ _ (by omega)]; exact R.d hu, by rw [va_un _ _ (by omega), va_un _ _ (by omega), va_un _ _ (by omega), va_un _ _ (by omega)]; exact R.v hu⟩
  · exact fun e (he : e < m.pc) => by rw [va_un _ _ (by omega), va_un _ _ (by omega), va_un _ _ (by omega), va_un _ _ (by omega)]; exact R.tg he
  · intro i hi
    have hi : i < m.c := hi
    have h8 := b7 i hi
    have h7 := b7 k hk9
    show _ = m.id i ∧ _ = nI (m.dy i) ∧ _ = nI (va_up m.pn k (m.pn k + 1) i) ∧ ∀ p, p < va_up m.pn k (m.pn k + 1) i → _ = va_up m.mn k (va_up (m.mn k) (m.pn k) x) i p ∧ _ = va_up m.it k (va_up (m.it k) (m.pn k) y) i p
    by_cases e : i = k
    · subst e
      rw [va_us m.pn, va_us m.mn, va_us m.it]
      refine ⟨by rw [va_un _ _ (by omega), va_un _ _ (by omega), va_un _ _ (by omega), va_un _ _ (by omega)]; exact R.id hi, by rw [va_un _ _ (by omega), va_un _ _ (by omega), va_un _ _ (by omega), va_un _ _ (by omega)]; exact R.dy hi, by rw [va_un _ _ (by omega), show 102 + 20 * i = 100 + 20 * i + 2 by omega, va_us], fun p hp => ?_⟩
      by_cases e9 : p = m.pn i
      · rw [e9, va_us (m.mn i), va_us (m.it i)]
        exact ⟨by rw [va_un _ _ (by omega), va_un _ _ (by omega), va_un _ _ (by omega), show 103 + 20 * i + m.pn i = 100 + 20 * i + 3 + m.pn i by omega, va_us], by rw [va_un _ _ (by omega), va_un _ _ (by omega), show 111 + 20 * i + m.pn i = 100 + 20 * i + 11 + m.pn i by omega, va_us]⟩
      · rw [va_un (m.mn i) _ e9, va_un (m.it i) _ e9]
        exact ⟨by rw [va_un _ _ (by omega), va_un _ _ (by omega), va_un _ _ (by omega), va_un _ _ (by omega)]; exact R.mn hi (by omega), by rw [va_un _ _ (by omega), va_un _ _ (by omega), va_un _ _ (by omega), va_un _ _ (by omega)]; exact R.it hi (by omega)⟩
    · rw [va_un m.pn _ e, va_un m.mn _ e, va_un m.it _ e]
      exact ⟨by rw [va_un _ _ (by omega), va_un _ _ (by omega), va_un _ _ (by omega), va_un _ _ (by omega)]; exact R.id hi, by rw [va_un _ _ (by omega), va_un _ _ (by omega), va_un _ _ (by omega), va_un _ _ (by omega)]; exact R.dy hi, by rw [va_un _ _ (by omega), va_un _ _ (by omega), va_un _ _ (by omega), va_un _ _ (by omega)]; exact R.pn hi, fun p hp => ⟨by rw [va_un _ _ (by omega), va_un _ _ (by omega), va_un _ _ (by omega), va_un _ _ (by omega)]; exact R.mn hi hp, by rw [va_un _ _ (by omega), va_un _ _ (by omega), va_un _ _ (by omega), va_un _ _ (by omega)]; exact R.it hi hp⟩⟩
  · refine ⟨b1, b2, b3, b4, b5, b6, fun i hi => ?_⟩
    show va_up m.pn k (m.pn k + 1) i ≤ 8 ∧ m.dy i ≤ 199
    by_cases e : i = k
    · subst e; rw [va_us]; exact ⟨hp9, (b7 i hi).2⟩
    · rw [va_un m.pn _ e]; exact b7 i hi
