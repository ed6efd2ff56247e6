/-! WHAT THE DESK's METHODS DO, over the memory -/
/-- the length of lock i's row -/
def rn (M : Mem) (i : Nat) : Nat := (M (13 + i) 2).toNatClampNeg
/-- the rows' lengths are 0 .. 6 -/
def dk_ok (M : Mem) : Prop := ∀ i, i < 4 → rn M i ≤ 6 ∧ M (13 + i) 2 = nI (rn M i)
theorem ok_up {M : Mem} {k r : Nat} {v : Int32} (h : dk_ok M) (hk : k < 13 ∨ 17 ≤ k) : dk_ok (up M k r v) := by
  intro i hi
  have e : up M k r v (13 + i) = M (13 + i) := up_n (by omega)
  unfold rn
  rw [e]
  exact h i hi
theorem rn_up {M : Mem} {k r i : Nat} {v : Int32} (hk : 13 + i ≠ k) : rn (up M k r v) i = rn M i := by
  unfold rn
  rw [up_n hk]
theorem ok_len {M : Mem} {i n : Nat} (h : dk_ok M) (hn : n ≤ 6) : dk_ok (up M (13 + i) 2 (nI n)) := by
  intro j hj
  by_cases e : 13 + j = 13 + i
  · have e2 : j = i := by omega
    subst e2
    unfold rn
    rw [up_s, nI_clamp (by omega)]
    exact ⟨hn, rfl⟩
  · have e1 : up M (13 + i) 2 (nI n) (13 + j) = M (13 + j) := up_n e
    unfold rn
    rw [e1]
    exact h j hj
/-- the first place from j on, of k, that holds x -/
def pl (g : Nat → Int32) (x : Int32) : Nat → Nat → Option Nat
  | 0, _ => none
  | k + 1, j => if g j = x then some j else pl g x k (j + 1)
theorem pl_some {g : Nat → Int32} {x : Int32} : ∀ {k j a : Nat}, pl g x k j = some a → j ≤ a ∧ a < j + k ∧ g a = x ∧ ∀ b, j ≤ b → b < a → g b ≠ x
  | 0, j, a, h => by cases h
  | k + 1, j, a, h => by
    unfold pl at h
    by_cases e : g j = x
    · rw [if_pos e] at h
      cases h
      exact ⟨Nat.le_refl _, by omega, e, fun b h1 h2 => by omega⟩
    · rw [if_neg e] at h
      obtain ⟨h1, h2, h3, h4⟩ := pl_some h
      refine ⟨by omega, by omega, h3, fun b h5 h6 => ?_⟩
      by_cases e2 : b = j
      · rw [e2]; exact e
      · exact h4 b (by omega) h6
theorem pl_none {g : Nat → Int32} {x : Int32} : ∀ {k j : Nat}, pl g x k j = none → ∀ b, j ≤ b → b < j + k → g b ≠ x
  | 0, j, h => fun b h1 h2 => by omega
  | k + 1, j, h => by
    unfold pl at h
    by_cases e : g j = x
    · rw [if_pos e] at h
      cases h
    · rw [if_neg e] at h
      intro b h1 h2
      by_cases e2 : b = j
      · rw [e2]; exact e
      · exact pl_none h b (by omega) (by omega)
theorem op_cases (o : Option Nat) : o = none ∨ ∃ j, o = some j := by
  cases o with
  | none => exact Or.inl rfl
  | some j => exact Or.inr ⟨j, rfl⟩
def oI : Option Nat → Int32
  | none => -1
  | some j => nI j
theorem nI_ne {j : Nat} (h : j < 2 ^ 31) : nI j ≠ -1 := by
  intro e
  have := nI_pos' h
  rw [e] at this
  exact absurd this (by decide)
def tkv : Option Nat → Int32
  | none => 0
  | some _ => 1
def slA (M : Mem) (i : Nat) (x : Int32) : Int32 := match dN x (rn M i) with
  | none => -1
  | some j => M (17 + i) j
def tmA (M : Mem) (i : Nat) (x : Int32) : Int32 := match dN x (rn M i) with
  | none => 0
  | some j => M (21 + i) j
/-- k places from j on move up by one -/
def shf (i : Nat) : Nat → Nat → Mem → Mem
  | 0, _, M => M
  | k + 1, j, M => shf i k (j + 1) (up (up M (17 + i) j (M (17 + i) (j + 1))) (21 + i) j ((up M (17 + i) j (M (17 + i) (j + 1))) (21 + i) (j + 1)))
theorem shf_len (i : Nat) : ∀ (k j : Nat) (M : Mem) (a : Nat), a < 17 → shf i k j M a = M a
  | 0, j, M, a, h => rfl
  | k + 1, j, M, a, h => by
    unfold shf
    rw [shf_len i k (j + 1) _ a h, up_n (by omega), up_n (by omega)]
theorem ok_shf {M : Mem} {i k j : Nat} (h : dk_ok M) : dk_ok (shf i k j M) := by
  intro a ha
  unfold rn
  rw [shf_len i k j M (13 + a) (by omega)]
  exact h a ha
def drp (M : Mem) (i : Nat) (x : Int32) : Mem := match pl (M (17 + i)) x (rn M i) 0 with
  | none => M
  | some j => shf i (rn M i - 1 - j) j (up M (13 + i) 2 (nI (rn M i - 1)))
def drv (M : Mem) (i : Nat) (x : Int32) : Int32 := match pl (M (17 + i)) x (rn M i) 0 with
  | none => 0
  | some _ => 1
theorem ok_drp {M : Mem} {i : Nat} {x : Int32} (h : dk_ok M) (hi : i < 4) : dk_ok (drp M i x) := by
  unfold drp
  cases pl (M (17 + i)) x (rn M i) 0 with
  | none => exact h
  | some j => exact ok_shf (ok_len h (by have := (h i hi).1; omega))
def askM (M : Mem) (i : Nat) (x t : Int32) : Mem := match pl (M (17 + i)) x (rn M i) 0 with
  | some j => up M (21 + i) j t
  | none => if 6 ≤ nI (rn M i) then M else up (up (up M (17 + i) (rn M i) x) (21 + i) (rn M i) t) (13 + i) 2 (nI (rn M i + 1))
theorem ok_ask {M : Mem} {i : Nat} {x t : Int32} (h : dk_ok M) (hi : i < 4) : dk_ok (askM M i x t) := by
  unfold askM
  cases pl (M (17 + i)) x (rn M i) 0 with
  | some j => exact ok_up h (by omega)
  | none =>
    dsimp only
    by_cases e : 6 ≤ nI (rn M i)
    · rw [if_pos e]; exact h
    · rw [if_neg e]
      have h6 := (h i hi).1
      have : rn M i ≠ 6 := fun e2 => e (by rw [e2]; decide)
      exact ok_len (ok_up (ok_up h (by omega)) (by omega)) (by omega)
def freV (M : Mem) (i : Nat) : Int32 := if M (9 + i) 1 = -1 then 1 else 0
def rfM (M : Mem) (i : Nat) (now term clk : Int32) : Mem := up (up (up M (9 + i) 3 (now + term)) (9 + i) 4 term) (9 + i) 5 clk
def lnM (M : Mem) (i : Nat) (x term now clk : Int32) : Mem := rfM (up (up M (9 + i) 1 x) (9 + i) 2 ((up M (9 + i) 1 x) (9 + i) 2 + 1)) i now term clk
def rwM (M : Mem) (i : Nat) (term now clk : Int32) : Mem := if now + term ≤ M (9 + i) 3 then M else rfM M i now term clk
theorem ok_rf {M : Mem} {i : Nat} {a b c : Int32} (h : dk_ok M) (hi : i < 4) : dk_ok (rfM M i a b c) := ok_up (ok_up (ok_up h (by omega)) (by omega)) (by omega)
theorem ok_ln {M : Mem} {i : Nat} {x a b c : Int32} (h : dk_ok M) (hi : i < 4) : dk_ok (lnM M i x a b c) := ok_rf (ok_up (ok_up h (by omega)) (by omega)) hi
theorem ok_rw {M : Mem} {i : Nat} {a b c : Int32} (h : dk_ok M) (hi : i < 4) : dk_ok (rwM M i a b c) := by
  unfold rwM
  by_cases e : b + a ≤ M (9 + i) 3
  · rw [if_pos e]; exact h
  · rw [if_neg e]; exact ok_rf h hi
def bgM (M : Mem) (i : Nat) (now : Int32) : Mem := up (up (up (up M (3 + i) 0 1) (3 + i) 1 now) (3 + i) 2 10) (3 + i) 3 0
theorem ok_bg {M : Mem} {i : Nat} {a : Int32} (h : dk_ok M) (hi : i < 6) : dk_ok (bgM M i a) := ok_up (ok_up (ok_up (ok_up h (by omega)) (by omega)) (by omega)) (by omega)
/-- the open session at slot x -/
def osV (M : Mem) (x : Int32) : Option Nat := match dN x 6 with
  | none => none
  | some j => if M (3 + j) 0 = 0 then none else some j
theorem osV_some {M : Mem} {x : Int32} {j : Nat} (h : osV M x = some j) : j < 6 ∧ x = nI j ∧ M (3 + j) 0 ≠ 0 := by
  unfold osV at h
  cases hd : dN x 6 with
  | none => rw [hd] at h; cases h
  | some a =>
    rw [hd] at h
    dsimp only at h
    obtain ⟨h1, h2⟩ := dN_some (by decide) hd
    by_cases e : M (3 + a) 0 = 0
    · rw [if_pos e] at h; cases h
    · rw [if_neg e] at h
      cases h
      exact ⟨h1, h2, e⟩
def clkV (M : Mem) (x : Int32) : Int32 := match osV M x with
  | none => -1
  | some j => M (3 + j) 3
def psM (M : Mem) (i : Nat) : Mem :=
  let M1 := up M (9 + i) 1 (-1)
  let x := slA M1 i 0
  if x = -1 then M1 else lnM (drp M1 i x) i x (tmA M1 i 0) (drp M1 i x 0 2) (clkV (drp M1 i x) x)
theorem ok_ps {M : Mem} {i : Nat} (h : dk_ok M) (hi : i < 4) : dk_ok (psM M i) := by
  unfold psM
  have h1 : dk_ok (up M (9 + i) 1 (-1)) := ok_up h (by omega)
  by_cases e : slA (up M (9 + i) 1 (-1)) i 0 = -1
  · simp only [if_pos e]; exact h1
  · simp only [if_neg e]; exact ok_ln (ok_drp h1 hi) hi
