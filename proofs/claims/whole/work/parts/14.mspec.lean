/-! WHAT THE REFERENCE's METHODS DO, over its memory -/
theorem ml_ix (a b : Nat) : nI a * 6 + nI b = nI (a * 6 + b) := by
  rw [show (6 : Int32) = nI 6 from rfl, pk_mul, nI_add]
def moV (M : Mem) (x : Int32) : Option Nat := match dN x 6 with
  | none => none
  | some j => if M 1 j = 0 then none else some j
theorem moV_some {M : Mem} {x : Int32} {j : Nat} (h : moV M x = some j) : j < 6 ∧ x = nI j ∧ M 1 j ≠ 0 := by
  unfold moV at h
  cases hd : dN x 6 with
  | none => rw [hd] at h; cases h
  | some a =>
    rw [hd] at h
    dsimp only at h
    obtain ⟨h1, h2⟩ := dN_some (by decide) hd
    by_cases e : M 1 a = 0
    · rw [if_pos e] at h; cases h
    · rw [if_neg e] at h
      cases h
      exact ⟨h1, h2, e⟩
def mlM (M : Mem) (l s : Nat) (t : Int32) : Mem :=
  let N1 := up M 5 l (nI s + 1)
  let N2 := up N1 6 l (N1 6 l + 1)
  let N3 := up N2 7 l (N2 0 0 + t)
  let N4 := up N3 8 l t
  let N5 := up N4 9 l (N4 4 s)
  up N5 10 (l * 6 + s) 0
/-- how many wishes are above 0 and below own -/
def cnt (w : Nat → Int32) (own : Int32) : Nat → Nat → Int32 → Int32
  | 0, _, v => v
  | k + 1, o, v => cnt w own k (o + 1) (if w o ≤ 0 then v else if own ≤ w o then v else v + 1)
def inR (w : Nat → Int32) (x : Int32) : Nat → Nat → Int32
  | 0, _ => -1
  | k + 1, j => if w j ≤ 0 then inR w x k (j + 1) else if cnt w (w j) 6 0 0 = x then nI j else inR w x k (j + 1)
theorem inR_cases (w : Nat → Int32) (x : Int32) : ∀ k j, inR w x k j = -1 ∨ ∃ a, a < j + k ∧ inR w x k j = nI a
  | 0, j => Or.inl rfl
  | k + 1, j => by
    unfold inR
    by_cases e : w j ≤ 0
    · rw [if_pos e]
      rcases inR_cases w x k (j + 1) with h | ⟨a, h1, h2⟩
      · exact Or.inl h
      · exact Or.inr ⟨a, by omega, h2⟩
    · rw [if_neg e]
      by_cases e2 : cnt w (w j) 6 0 0 = x
      · rw [if_pos e2]; exact Or.inr ⟨j, by omega, rfl⟩
      · rw [if_neg e2]
        rcases inR_cases w x k (j + 1) with h | ⟨a, h1, h2⟩
        · exact Or.inl h
        · exact Or.inr ⟨a, by omega, h2⟩
def wsh (M : Mem) (l : Nat) : Nat → Int32 := fun o => M 10 (l * 6 + o)
def inV (M : Mem) (l : Nat) (x : Int32) : Int32 := inR (wsh M l) x 6 0
def ovM (M : Mem) (l : Nat) : Mem := match dN (inV (up M 5 l 0) l 0) 6 with
  | none => up M 5 l 0
  | some s => mlM (up M 5 l 0) l s ((up M 5 l 0) 11 (l * 6 + s))
def gwM (s : Nat) : Nat → Nat → Mem → Mem
  | 0, _, N => N
  | k + 1, l, N => gwM s k (l + 1) (up N 10 (l * 6 + s) 0)
def gnM (s : Nat) : Nat → Nat → Mem → Mem
  | 0, _, N => N
  | k + 1, l, N => gnM s k (l + 1) (if N 5 l = nI s + 1 then ovM N l else N)
def gnV (s : Nat) : Nat → Nat → Mem → Int32 → Int32
  | 0, _, _, v => v
  | k + 1, l, N, v => gnV s k (l + 1) (if N 5 l = nI s + 1 then ovM N l else N) (if N 5 l = nI s + 1 then v + 1 else v)
def goM (M : Mem) (s : Nat) : Mem := up (gnM s 4 0 (gwM s 4 0 M)) 1 s 0
def goV (M : Mem) (s : Nat) : Int32 := gnV s 4 0 (gwM s 4 0 M) 0
def mfo (M : Mem) : Nat → Nat → Option Nat
  | 0, _ => none
  | k + 1, j => if M 1 j = 0 then some j else mfo M k (j + 1)
def mbM (M : Mem) (j : Nat) : Mem :=
  let N1 := up M 1 j 1
  let N2 := up N1 2 j (N1 0 0)
  let N3 := up N2 3 j 10
  let N4 := up N3 4 j 0
  up N4 0 1 0
def mopV (M : Mem) : Int32 := match mfo M 6 0 with
  | none => 0
  | some j => nI j
def mopM (M : Mem) : Mem := match mfo M 6 0 with
  | none => up M 0 1 1
  | some j => mbM M j
def mclV (M : Mem) (x : Int32) : Int32 := match moV M x with
  | none => 0
  | some j => goV (up M 0 1 0) j
def mclM (M : Mem) (x : Int32) : Mem := match moV M x with
  | none => up M 0 1 1
  | some j => goM (up M 0 1 0) j
def mkpM (M : Mem) (x : Int32) : Mem := match moV M x with
  | none => up M 0 1 1
  | some j => up (up M 0 1 0) 2 j ((up M 0 1 0) 0 0)
def mrtV (M : Mem) (x r : Int32) : Int32 := match moV M x with
  | none => 0
  | some _ => if r < 9 then 0 else if r ≤ 11 then 1 else 0
def mrtM (M : Mem) (x r : Int32) : Mem := match moV M x with
  | none => M
  | some j => if r < 9 then M else if r ≤ 11 then up M 3 j r else M
def mmv (d : Int32) : Nat → Nat → Mem → Mem
  | 0, _, N => N
  | k + 1, j, N => mmv d k (j + 1) (if N 1 j = 0 then N else up N 4 j (N 4 j + N 3 j * d))
def mslM : Nat → Nat → Mem → Mem
  | 0, _, N => N
  | k + 1, j, N => mslM k (j + 1) (if N 1 j = 0 then N else if N 0 0 - N 2 j ≤ 50 then N else goM N j)
def mslV : Nat → Nat → Mem → Int32 → Int32
  | 0, _, _, v => v
  | k + 1, j, N, v => mslV k (j + 1) (if N 1 j = 0 then N else if N 0 0 - N 2 j ≤ 50 then N else goM N j) (if N 1 j = 0 then v else if N 0 0 - N 2 j ≤ 50 then v else v + goV N j)
def mduM : Nat → Nat → Mem → Mem
  | 0, _, N => N
  | k + 1, l, N => mduM k (l + 1) (if N 5 l = 0 then N else if N 7 l ≤ N 0 0 then ovM N l else N)
def mduV : Nat → Nat → Mem → Int32 → Int32
  | 0, _, _, v => v
  | k + 1, l, N, v => mduV k (l + 1) (if N 5 l = 0 then N else if N 7 l ≤ N 0 0 then ovM N l else N) (if N 5 l = 0 then v else if N 7 l ≤ N 0 0 then v + 1 else v)
def mtA (M : Mem) (d : Int32) : Mem := mmv d 6 0 (up M 0 0 (M 0 0 + d))
def mtV (M : Mem) (d : Int32) : Int32 := mduV 4 0 (mslM 6 0 (mtA M d)) (mslV 6 0 (mtA M d) 0)
def mtM (M : Mem) (d : Int32) : Mem := mduM 4 0 (mslM 6 0 (mtA M d))
def mtcV (M : Mem) (d : Int32) : Int32 := if d < 0 then -1 else if d ≤ 100 then mtV M d else -1
def mtcM (M : Mem) (d : Int32) : Mem := if d < 0 then M else if d ≤ 100 then mtM M d else M
def maA (M : Mem) (j : Nat) : Mem := up (up M 0 1 0) 2 j ((up M 0 1 0) 0 0)
def maR (A : Mem) (j i : Nat) (t : Int32) : Mem :=
  if A 0 0 + t ≤ A 7 i then A else
  let B1 := up A 7 i (A 0 0 + t)
  let B2 := up B1 8 i t
  up B2 9 i (B2 4 j)
def maW (A : Mem) (j i : Nat) (t : Int32) : Mem :=
  if A 10 (i * 6 + j) = 0 then up (up (up A 0 2 (A 0 2 + 1)) 10 (i * 6 + j) ((up A 0 2 (A 0 2 + 1)) 0 2)) 11 (i * 6 + j) t
  else up A 11 (i * 6 + j) t
def maM (M : Mem) (j i : Nat) (t : Int32) : Mem :=
  if maA M j 5 i = nI j + 1 then maR (maA M j) j i t
  else if maA M j 5 i = 0 then mlM (maA M j) i j t
  else maW (maA M j) j i t
def maV (M : Mem) (j i : Nat) (t : Int32) : Int32 :=
  if maA M j 5 i = nI j + 1 then maM M j i t 6 i
  else if maA M j 5 i = 0 then maM M j i t 6 i
  else 0
def maqM (M : Mem) (x y t : Int32) : Mem := match moV M x with
  | none => up M 0 1 1
  | some j => match dN y 4 with
    | none => up M 0 1 2
    | some i => if t < 1 then up M 0 1 2 else if t ≤ 100 then maM M j i t else up M 0 1 2
def maqV (M : Mem) (x y t : Int32) : Int32 := match moV M x with
  | none => 0
  | some j => match dN y 4 with
    | none => 0
    | some i => if t < 1 then 0 else if t ≤ 100 then maV M j i t else 0
def mrlM (M : Mem) (x y : Int32) : Mem := match moV M x with
  | none => up M 0 1 1
  | some j => match dN y 4 with
    | none => up M 0 1 2
    | some i => if M 5 i = nI j + 1 then ovM (up M 0 1 0) i else up M 0 1 3
def mcnV (M : Mem) (x y : Int32) : Int32 := match moV M x with
  | none => 0
  | some j => match dN y 4 with
    | none => 0
    | some i => if M 10 (i * 6 + j) = 0 then 0 else 1
def mcnM (M : Mem) (x y : Int32) : Mem := match moV M x with
  | none => M
  | some j => match dN y 4 with
    | none => M
    | some i => if M 10 (i * 6 + j) = 0 then M else up M 10 (i * 6 + j) 0
def mkcV (M : Mem) (x none' : Int32) (r : Nat) : Int32 := match dN x 4 with
  | none => none'
  | some j => M r j
def mhdV (M : Mem) (x : Int32) : Int32 := match dN x 4 with
  | none => -1
  | some j => M 5 j - 1
def mutV (M : Mem) (x : Int32) : Int32 := match dN x 4 with
  | none => -1
  | some j => if M 5 j ≤ 0 then -1 else M 7 j
def mwtV (M : Mem) (x k : Int32) : Int32 := match dN x 4 with
  | none => -1
  | some j => inV M j k
def mckV (M : Mem) (x : Int32) : Int32 := match moV M x with
  | none => -1
  | some j => M 4 j
def mblV (M : Mem) (x y : Int32) : Int32 := match moV M x with
  | none => 0
  | some j => match dN y 4 with
    | none => 0
    | some i => if M 5 i = nI j + 1 then (if 9 * M 8 i ≤ M 4 j - M 9 i then 0 else 1) else 0
def mwrV (M : Mem) (x t : Int32) : Int32 := match dN x 4 with
  | none => 0
  | some j => if t < 1 then 0 else if M 12 j ≤ t then 1 else 0
def mwrM (M : Mem) (x t v : Int32) : Mem := match dN x 4 with
  | none => M
  | some j => if t < 1 then M else if M 12 j ≤ t then up (up M 12 j t) 13 j v else M
