/-- the first free slot from j on, of k -/
def fo (M : Mem) : Nat → Nat → Option Nat
  | 0, _ => none
  | k + 1, j => if M (3 + j) 0 = 0 then some j else fo M k (j + 1)
theorem fo_some {M : Mem} : ∀ {k j a : Nat}, fo M k j = some a → a < j + k
  | 0, j, a, h => by cases h
  | k + 1, j, a, h => by
    unfold fo at h
    by_cases e : M (3 + j) 0 = 0
    · rw [if_pos e] at h; cases h; omega
    · rw [if_neg e] at h; have := fo_some h; omega
/-- acquire, past its tests: session j, lock i -/
def aqA (M : Mem) (j : Nat) : Mem := up M (3 + j) 1 (M 0 2)
def aqM (M : Mem) (j i : Nat) (t : Int32) : Mem :=
  if aqA M j (9 + i) 1 = nI j then rwM (aqA M j) i t (aqA M j 0 2) (aqA M j (3 + j) 3)
  else if freV (aqA M j) i = 0 then askM (aqA M j) i (nI j) t
  else lnM (aqA M j) i (nI j) t (aqA M j 0 2) (aqA M j (3 + j) 3)
def aqV (M : Mem) (j i : Nat) (t : Int32) : Int32 :=
  if aqA M j (9 + i) 1 = nI j then aqM M j i t (9 + i) 2
  else if freV (aqA M j) i = 0 then 0
  else aqM M j i t (9 + i) 2
theorem ok_aq {M : Mem} {j i : Nat} {t : Int32} (h : dk_ok M) (hj : j < 6) (hi : i < 4) : dk_ok (aqM M j i t) := by
  have h1 : dk_ok (aqA M j) := ok_up h (by omega)
  unfold aqM
  by_cases e : aqA M j (9 + i) 1 = nI j
  · rw [if_pos e]; exact ok_rw h1 hi
  · rw [if_neg e]
    by_cases e2 : freV (aqA M j) i = 0
    · rw [if_pos e2]; exact ok_ask h1 hi
    · rw [if_neg e2]; exact ok_ln h1 hi
