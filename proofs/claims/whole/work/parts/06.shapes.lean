/-! THE DESK's world: 0 the desk, 1 its sessions, 2 its locks, 3 .. 8 the sessions, 9 .. 12 the locks, 13 .. 16 their rows, 17 .. 20 the rows' slots, 21 .. 24 the rows' terms -/
abbrev DG : Type := va_G × (ClassId × ClassId × ClassId) × (Nat → Nat)
def dkE (cI cS cL : ClassId) (ad : Nat → Nat) (k : Nat) (g : Nat → Int32) : va_E :=
  if k = 0 then .inr (3, [.ref (ad 1), .ref (ad 2), .int (g 2)])
  else if k = 1 then .inl (cS, 6, .inr (.inr (.inr (.inr (fun i => if i < 6 then some (ad (3 + i)) else none)))))
  else if k = 2 then .inl (cL, 4, .inr (.inr (.inr (.inr (fun i => if i < 4 then some (ad (9 + i)) else none)))))
  else if k < 9 then .inr (2, [.int (g 0), .int (g 1), .int (g 2), .int (g 3)])
  else if k < 13 then .inr (0, [.ref (ad (k + 4)), .int (g 1), .int (g 2), .int (g 3), .int (g 4), .int (g 5), .int (g 6), .int (g 7)])
  else if k < 17 then .inr (1, [.ref (ad (k + 4)), .ref (ad (k + 8)), .int (g 2)])
  else .inl (cI, 6, .inl g)
def dkO (G : DG) : WS := (G.1, 25, G.2.2, dkE G.2.1.1 G.2.1.2.1 G.2.1.2.2 G.2.2, [(G.2.1.1, .int), (G.2.1.2.1, .object RX2), (G.2.1.2.2, .object RX0)])
theorem dk_lt {G : DG} {k : Nat} (h : k < 25) : k < wn (dkO G) := h
theorem dE_0 {G : DG} {g : Nat → Int32} : wE (dkO G) 0 g = .inr (3, [.ref (wa (dkO G) 1), .ref (wa (dkO G) 2), .int (g 2)]) := rfl
theorem dE_1 {G : DG} {g : Nat → Int32} : wE (dkO G) 1 g = .inl (G.2.1.2.1, 6, .inr (.inr (.inr (.inr (fun i => if i < 6 then some (wa (dkO G) (3 + i)) else none))))) := rfl
theorem dE_2 {G : DG} {g : Nat → Int32} : wE (dkO G) 2 g = .inl (G.2.1.2.2, 4, .inr (.inr (.inr (.inr (fun i => if i < 4 then some (wa (dkO G) (9 + i)) else none))))) := rfl
theorem dE_ses {G : DG} {g : Nat → Int32} {i : Nat} (h : i < 6) : wE (dkO G) (3 + i) g = .inr (2, [.int (g 0), .int (g 1), .int (g 2), .int (g 3)]) := by
  show dkE _ _ _ _ _ _ = _
  unfold dkE
  rw [if_neg (by omega), if_neg (by omega), if_neg (by omega), if_pos (by omega)]
theorem dE_lock {G : DG} {g : Nat → Int32} {i : Nat} (h : i < 4) : wE (dkO G) (9 + i) g = .inr (0, [.ref (wa (dkO G) (13 + i)), .int (g 1), .int (g 2), .int (g 3), .int (g 4), .int (g 5), .int (g 6), .int (g 7)]) := by
  show dkE _ _ _ _ _ _ = _
  unfold dkE
  rw [if_neg (by omega), if_neg (by omega), if_neg (by omega), if_neg (by omega), if_pos (by omega), show 9 + i + 4 = 13 + i by omega]
  rfl
theorem dE_row {G : DG} {g : Nat → Int32} {i : Nat} (h : i < 4) : wE (dkO G) (13 + i) g = .inr (1, [.ref (wa (dkO G) (17 + i)), .ref (wa (dkO G) (21 + i)), .int (g 2)]) := by
  show dkE _ _ _ _ _ _ = _
  unfold dkE
  rw [if_neg (by omega), if_neg (by omega), if_neg (by omega), if_neg (by omega), if_neg (by omega), if_pos (by omega), show 13 + i + 4 = 17 + i by omega, show 13 + i + 8 = 21 + i by omega]
  rfl
theorem dE_sl {G : DG} {i : Nat} (h : i < 4) (g : Nat → Int32) : wE (dkO G) (17 + i) g = .inl (G.2.1.1, 6, .inl g) := by
  show dkE _ _ _ _ _ _ = _
  unfold dkE
  rw [if_neg (by omega), if_neg (by omega), if_neg (by omega), if_neg (by omega), if_neg (by omega), if_neg (by omega)]
theorem dE_tm {G : DG} {i : Nat} (h : i < 4) (g : Nat → Int32) : wE (dkO G) (21 + i) g = .inl (G.2.1.1, 6, .inl g) := by
  show dkE _ _ _ _ _ _ = _
  unfold dkE
  rw [if_neg (by omega), if_neg (by omega), if_neg (by omega), if_neg (by omega), if_neg (by omega), if_neg (by omega)]
/-! THE REFERENCE's world: 0 the object, 1 .. 13 its arrays: there, signed, rates, clocks, has, tokens, ends, terms, starts, wishes, wished, greatest, values -/
abbrev MG : Type := va_G × (ClassId × ClassId) × (Nat → Nat)
def mdL (k : Nat) : Nat := if k < 5 then 6 else if k = 10 then 24 else if k = 11 then 24 else 4
def mdE (cI cZ : ClassId) (ad : Nat → Nat) (k : Nat) (g : Nat → Int32) : va_E :=
  if k = 0 then .inr (4, [.int (g 0), .int (g 1), .int (g 2), .ref (ad 1), .ref (ad 2), .ref (ad 3), .ref (ad 4), .ref (ad 5), .ref (ad 6), .ref (ad 7), .ref (ad 8), .ref (ad 9), .ref (ad 10), .ref (ad 11), .ref (ad 12), .ref (ad 13)])
  else if k = 1 then .inl (cZ, 6, .inl g)
  else .inl (cI, mdL k, .inl g)
def mdO (G : MG) : WS := (G.1, 14, G.2.2, mdE G.2.1.1 G.2.1.2 G.2.2, [(G.2.1.1, .int), (G.2.1.2, .boolean)])
theorem md_lt {G : MG} {k : Nat} (h : k < 14) : k < wn (mdO G) := h
theorem mE_0 {G : MG} {g : Nat → Int32} : wE (mdO G) 0 g = .inr (4, [.int (g 0), .int (g 1), .int (g 2), .ref (wa (mdO G) 1), .ref (wa (mdO G) 2), .ref (wa (mdO G) 3), .ref (wa (mdO G) 4), .ref (wa (mdO G) 5), .ref (wa (mdO G) 6), .ref (wa (mdO G) 7), .ref (wa (mdO G) 8), .ref (wa (mdO G) 9), .ref (wa (mdO G) 10), .ref (wa (mdO G) 11), .ref (wa (mdO G) 12), .ref (wa (mdO G) 13)]) := rfl
theorem mE_z {G : MG} (g : Nat → Int32) : wE (mdO G) 1 g = .inl (G.2.1.2, 6, .inl g) := rfl
theorem mE_2 {G : MG} (g : Nat → Int32) : wE (mdO G) 2 g = .inl (G.2.1.1, 6, .inl g) := rfl
theorem mE_3 {G : MG} (g : Nat → Int32) : wE (mdO G) 3 g = .inl (G.2.1.1, 6, .inl g) := rfl
theorem mE_4 {G : MG} (g : Nat → Int32) : wE (mdO G) 4 g = .inl (G.2.1.1, 6, .inl g) := rfl
theorem mE_5 {G : MG} (g : Nat → Int32) : wE (mdO G) 5 g = .inl (G.2.1.1, 4, .inl g) := rfl
theorem mE_6 {G : MG} (g : Nat → Int32) : wE (mdO G) 6 g = .inl (G.2.1.1, 4, .inl g) := rfl
theorem mE_7 {G : MG} (g : Nat → Int32) : wE (mdO G) 7 g = .inl (G.2.1.1, 4, .inl g) := rfl
theorem mE_8 {G : MG} (g : Nat → Int32) : wE (mdO G) 8 g = .inl (G.2.1.1, 4, .inl g) := rfl
theorem mE_9 {G : MG} (g : Nat → Int32) : wE (mdO G) 9 g = .inl (G.2.1.1, 4, .inl g) := rfl
theorem mE_10 {G : MG} (g : Nat → Int32) : wE (mdO G) 10 g = .inl (G.2.1.1, 24, .inl g) := rfl
theorem mE_11 {G : MG} (g : Nat → Int32) : wE (mdO G) 11 g = .inl (G.2.1.1, 24, .inl g) := rfl
theorem mE_12 {G : MG} (g : Nat → Int32) : wE (mdO G) 12 g = .inl (G.2.1.1, 4, .inl g) := rfl
theorem mE_13 {G : MG} (g : Nat → Int32) : wE (mdO G) 13 g = .inl (G.2.1.1, 4, .inl g) := rfl
/-! a number as an index below n -/
def dN (x : Int32) (n : Nat) : Option Nat := if x < 0 then none else if nI n ≤ x then none else some x.toNatClampNeg
theorem dN_some {x : Int32} {n j : Nat} (hn : n < 2 ^ 31) (h : dN x n = some j) : j < n ∧ x = nI j := by
  unfold dN at h
  by_cases h0 : x < 0
  · rw [if_pos h0] at h; cases h
  · rw [if_neg h0] at h
    by_cases h1 : nI n ≤ x
    · rw [if_pos h1] at h; cases h
    · rw [if_neg h1] at h
      cases h
      rcases pk_ix x hn with h2 | h2 | ⟨j, hj, rfl⟩
      · exact absurd h2 h0
      · exact absurd h2 h1
      · rw [nI_clamp (by omega)]; exact ⟨hj, rfl⟩
theorem dN_none {x : Int32} {n : Nat} (h : dN x n = none) (h0 : ¬ x < 0) : nI n ≤ x := by
  unfold dN at h
  rw [if_neg h0] at h
  by_cases h1 : nI n ≤ x
  · exact h1
  · rw [if_neg h1] at h; cases h
theorem dN_nI {n j : Nat} (hn : n < 2 ^ 31) (h : j < n) : dN (nI j) n = some j := by
  unfold dN
  rw [if_neg (nI_pos (by omega)), if_neg (nI_ge h hn), nI_clamp (by omega)]
