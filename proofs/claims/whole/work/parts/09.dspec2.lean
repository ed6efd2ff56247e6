/-! what the desk's larger methods do -/
def kcV (M : Mem) (x : Int32) (none' : Int32) (r : Nat) : Int32 := match dN x 4 with
  | none => none'
  | some j => M (9 + j) r
def untV (M : Mem) (x : Int32) : Int32 := match dN x 4 with
  | none => -1
  | some j => if M (9 + j) 1 = -1 then -1 else M (9 + j) 3
def wtV (M : Mem) (x k : Int32) : Int32 := match dN x 4 with
  | none => -1
  | some j => slA M j k
def blV (M : Mem) (x y : Int32) : Int32 := match osV M x with
  | none => 0
  | some i => match dN y 4 with
    | none => 0
    | some j => if M (9 + j) 1 = x then (if 9 * M (9 + j) 4 ≤ M (3 + i) 3 - M (9 + j) 5 then 0 else 1) else 0
def wrV (M : Mem) (x t : Int32) : Int32 := match dN x 4 with
  | none => 0
  | some j => if t < 1 then 0 else if M (9 + j) 6 ≤ t then 1 else 0
def wrM (M : Mem) (x t v : Int32) : Mem := match dN x 4 with
  | none => M
  | some j => if t < 1 then M else if M (9 + j) 6 ≤ t then up (up M (9 + j) 6 t) (9 + j) 7 v else M
def rtV (M : Mem) (x r : Int32) : Int32 := match osV M x with
  | none => 0
  | some _ => if r < 9 then 0 else if r ≤ 11 then 1 else 0
def rtM (M : Mem) (x r : Int32) : Mem := match osV M x with
  | none => M
  | some j => if r < 9 then M else if r ≤ 11 then up M (3 + j) 2 r else M
def cnV (M : Mem) (x y : Int32) : Int32 := match dN y 4 with
  | none => 0
  | some j => if drv M j x = 0 then 0 else 1
def cnM (M : Mem) (x y : Int32) : Mem := match dN y 4 with
  | none => M
  | some j => drp M j x
theorem ok_wr {M : Mem} {x t v : Int32} (h : dk_ok M) : dk_ok (wrM M x t v) := by
  unfold wrM
  cases hd : dN x 4 with
  | none => exact h
  | some j =>
    have hj := (dN_some (by decide) hd).1
    dsimp only
    by_cases e : t < 1
    · rw [if_pos e]; exact h
    · rw [if_neg e]
      by_cases e2 : M (9 + j) 6 ≤ t
      · rw [if_pos e2]; exact ok_up (ok_up h (by omega)) (by omega)
      · rw [if_neg e2]; exact h
theorem ok_rt {M : Mem} {x r : Int32} (h : dk_ok M) : dk_ok (rtM M x r) := by
  unfold rtM
  cases hd : osV M x with
  | none => exact h
  | some j =>
    have hj := (osV_some hd).1
    dsimp only
    by_cases e : r < 9
    · rw [if_pos e]; exact h
    · rw [if_neg e]
      by_cases e2 : r ≤ 11
      · rw [if_pos e2]; exact ok_up h (by omega)
      · rw [if_neg e2]; exact h
theorem ok_cn {M : Mem} {x y : Int32} (h : dk_ok M) : dk_ok (cnM M x y) := by
  unfold cnM
  cases hd : dN y 4 with
  | none => exact h
  | some j => exact ok_drp h (dN_some (by decide) hd).1
def mvM (d : Int32) : Nat → Nat → Mem → Mem
  | 0, _, N => N
  | k + 1, j, N => mvM d k (j + 1) (if N (3 + j) 0 = 0 then N else up N (3 + j) 3 (N (3 + j) 3 + N (3 + j) 2 * d))
theorem ok_mv {d : Int32} : ∀ (k j : Nat) {N : Mem}, j + k ≤ 6 → dk_ok N → dk_ok (mvM d k j N)
  | 0, _, N, _, h => h
  | k + 1, j, N, hk, h => by
    unfold mvM
    apply ok_mv k (j + 1) (by omega)
    by_cases e : N (3 + j) 0 = 0
    · rw [if_pos e]; exact h
    · rw [if_neg e]; exact ok_up h (by omega)
def dpA (x : Int32) : Nat → Nat → Mem → Mem
  | 0, _, N => N
  | k + 1, i, N => dpA x k (i + 1) (drp N i x)
theorem ok_dpA {x : Int32} : ∀ (k i : Nat) {N : Mem}, i + k ≤ 4 → dk_ok N → dk_ok (dpA x k i N)
  | 0, _, N, _, h => h
  | k + 1, i, N, hk, h => ok_dpA k (i + 1) (by omega) (ok_drp h (by omega))
def esM (x : Int32) : Nat → Nat → Mem → Mem
  | 0, _, N => N
  | k + 1, i, N => esM x k (i + 1) (if N (9 + i) 1 = x then psM N i else N)
def esV (x : Int32) : Nat → Nat → Mem → Int32 → Int32
  | 0, _, _, v => v
  | k + 1, i, N, v => esV x k (i + 1) (if N (9 + i) 1 = x then psM N i else N) (if N (9 + i) 1 = x then v + 1 else v)
theorem ok_esM {x : Int32} : ∀ (k i : Nat) {N : Mem}, i + k ≤ 4 → dk_ok N → dk_ok (esM x k i N)
  | 0, _, N, _, h => h
  | k + 1, i, N, hk, h => by
    unfold esM
    apply ok_esM k (i + 1) (by omega)
    by_cases e : N (9 + i) 1 = x
    · rw [if_pos e]; exact ok_ps h (by omega)
    · rw [if_neg e]; exact h
def endM (M : Mem) (j : Nat) (x : Int32) : Mem := up (esM x 4 0 (dpA x 4 0 M)) (3 + j) 0 0
def endV (M : Mem) (x : Int32) : Int32 := esV x 4 0 (dpA x 4 0 M) 0
theorem ok_end {M : Mem} {j : Nat} {x : Int32} (h : dk_ok M) (hj : j < 6) : dk_ok (endM M j x) := ok_up (ok_esM 4 0 (by omega) (ok_dpA 4 0 (by omega) h)) (by omega)
def slM : Nat → Nat → Mem → Mem
  | 0, _, N => N
  | k + 1, j, N => slM k (j + 1) (if N (3 + j) 0 = 0 then N else if N 0 2 - N (3 + j) 1 ≤ 50 then N else endM N j (nI j))
def slV : Nat → Nat → Mem → Int32 → Int32
  | 0, _, _, v => v
  | k + 1, j, N, v => slV k (j + 1) (if N (3 + j) 0 = 0 then N else if N 0 2 - N (3 + j) 1 ≤ 50 then N else endM N j (nI j)) (if N (3 + j) 0 = 0 then v else if N 0 2 - N (3 + j) 1 ≤ 50 then v else v + endV N (nI j))
theorem ok_sl : ∀ (k j : Nat) {N : Mem}, j + k ≤ 6 → dk_ok N → dk_ok (slM k j N)
  | 0, _, N, _, h => h
  | k + 1, j, N, hk, h => by
    unfold slM
    apply ok_sl k (j + 1) (by omega)
    by_cases e : N (3 + j) 0 = 0
    · rw [if_pos e]; exact h
    · rw [if_neg e]
      by_cases e2 : N 0 2 - N (3 + j) 1 ≤ 50
      · rw [if_pos e2]; exact h
      · rw [if_neg e2]; exact ok_end h (by omega)
def duM : Nat → Nat → Mem → Mem
  | 0, _, N => N
  | k + 1, i, N => duM k (i + 1) (if freV N i = 0 then (if N 0 2 < N (9 + i) 3 then N else psM N i) else N)
def duV : Nat → Nat → Mem → Int32 → Int32
  | 0, _, _, v => v
  | k + 1, i, N, v => duV k (i + 1) (if freV N i = 0 then (if N 0 2 < N (9 + i) 3 then N else psM N i) else N) (if freV N i = 0 then (if N 0 2 < N (9 + i) 3 then v else v + 1) else v)
theorem ok_du : ∀ (k i : Nat) {N : Mem}, i + k ≤ 4 → dk_ok N → dk_ok (duM k i N)
  | 0, _, N, _, h => h
  | k + 1, i, N, hk, h => by
    unfold duM
    apply ok_du k (i + 1) (by omega)
    by_cases e : freV N i = 0
    · rw [if_pos e]
      by_cases e2 : N 0 2 < N (9 + i) 3
      · rw [if_pos e2]; exact h
      · rw [if_neg e2]; exact ok_ps h (by omega)
    · rw [if_neg e]; exact h
/-- tick, past its test -/
def tiA (M : Mem) (d : Int32) : Mem := mvM d 6 0 (up M 0 2 (M 0 2 + d))
def tiM (M : Mem) (d : Int32) : Mem := duM 4 0 (slM 6 0 (tiA M d))
def tiV (M : Mem) (d : Int32) : Int32 := slV 6 0 (tiA M d) 0 + duV 4 0 (slM 6 0 (tiA M d)) 0
theorem ok_ti {M : Mem} {d : Int32} (h : dk_ok M) : dk_ok (tiM M d) := ok_du 4 0 (by omega) (ok_sl 6 0 (by omega) (ok_mv 6 0 (by omega) (ok_up h (by omega))))
def tcV (M : Mem) (d : Int32) : Int32 := if d < 0 then -1 else if d ≤ 100 then tiV M d else -1
def tcM (M : Mem) (d : Int32) : Mem := if d < 0 then M else if d ≤ 100 then tiM M d else M
theorem ok_tc {M : Mem} {d : Int32} (h : dk_ok M) : dk_ok (tcM M d) := by
  unfold tcM
  by_cases e : d < 0
  · rw [if_pos e]; exact h
  · rw [if_neg e]
    by_cases e2 : d ≤ 100
    · rw [if_pos e2]; exact ok_ti h
    · rw [if_neg e2]; exact h
