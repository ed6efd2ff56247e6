/-! A ROW: the desk's places in their order beside the reference's wishes, which are numbers -/
/-- row of length r: places sl, terms tm; op: which sessions are open; wishes w, their terms t; no wish above n -/
def rr (r : Nat) (sl tm op w t : Nat → Int32) (n : Nat) : Prop :=
  ∃ σ ω : Nat → Nat, (∀ k, k < r → σ k < 6 ∧ sl k = nI (σ k) ∧ op (σ k) ≠ 0 ∧ tm k = t (σ k) ∧ 0 < ω k ∧ ω k ≤ n ∧ w (σ k) = nI (ω k)) ∧
    (∀ k k', k < k' → k' < r → ω k < ω k') ∧ ∀ s, s < 6 → w s = 0 ∨ ∃ k, k < r ∧ σ k = s
theorem nI_inj {a b : Nat} (ha : a < 2 ^ 31) (hb : b < 2 ^ 31) (h : nI a = nI b) : a = b := (nI_eq ha hb).mp h
theorem ne_of_inc {ω : Nat → Nat} {r : Nat} (hi : ∀ k k', k < k' → k' < r → ω k < ω k') {a b : Nat} (ha : a < r) (hb : b < r) (h : ω a = ω b) : a = b := by
  rcases Nat.lt_trichotomy a b with h1 | h1 | h1
  · have := hi a b h1 hb; omega
  · exact h1
  · have := hi b a h1 ha; omega
theorem le_of_inc {ω : Nat → Nat} {r : Nat} (hi : ∀ k k', k < k' → k' < r → ω k < ω k') {a b : Nat} (ha : a < r) (hb : b < r) : ω a < ω b ↔ a < b := by
  refine ⟨fun h => ?_, fun h => hi a b h hb⟩
  rcases Nat.lt_trichotomy a b with h1 | h1 | h1
  · exact h1
  · subst h1; omega
  · have := hi b a h1 ha; omega
/-- counting -/
def cn (P : Nat → Bool) : Nat → Nat → Nat
  | 0, _ => 0
  | k + 1, o => (if P o = true then 1 else 0) + cn P k (o + 1)
theorem cn_le (P : Nat → Bool) : ∀ k o, cn P k o ≤ k
  | 0, _ => Nat.le_refl _
  | k + 1, o => by
    have := cn_le P k (o + 1)
    unfold cn
    by_cases h : P o = true
    · rw [if_pos h]; omega
    · rw [if_neg h]; omega
theorem cn_lt {P : Nat → Bool} {x : Nat} (hx : P x = false) : ∀ k o, o ≤ x → x < o + k → cn P k o < k
  | 0, o, h1, h2 => by omega
  | k + 1, o, h1, h2 => by
    unfold cn
    by_cases e : o = x
    · subst e
      rw [hx]
      have := cn_le P k (o + 1)
      simp only [Bool.false_eq_true, if_false]
      omega
    · have := cn_lt hx k (o + 1) (by omega) (by omega)
      by_cases h : P o = true
      · rw [if_pos h]; omega
      · rw [if_neg h]; omega
theorem cn_congr {P Q : Nat → Bool} : ∀ k o, (∀ x, o ≤ x → x < o + k → P x = Q x) → cn P k o = cn Q k o
  | 0, o, h => rfl
  | k + 1, o, h => by
    unfold cn
    rw [h o (Nat.le_refl _) (by omega), cn_congr k (o + 1) (fun x h1 h2 => h x (by omega) (by omega))]
theorem cn_false : ∀ k o, cn (fun _ => false) k o = 0
  | 0, o => rfl
  | k + 1, o => by unfold cn; rw [cn_false k (o + 1)]; rfl
theorem cn_out {P : Nat → Bool} {x : Nat} : ∀ k o, (x < o ∨ o + k ≤ x) → cn (fun y => P y || decide (y = x)) k o = cn P k o := by
  intro k o h
  refine cn_congr k o (fun y h1 h2 => ?_)
  have : y ≠ x := by omega
  simp [this]
theorem cn_add {P : Nat → Bool} {x : Nat} (hx : P x = false) : ∀ k o, o ≤ x → x < o + k → cn (fun y => P y || decide (y = x)) k o = cn P k o + 1
  | 0, o, h1, h2 => by omega
  | k + 1, o, h1, h2 => by
    unfold cn
    by_cases e : o = x
    · subst e
      rw [cn_out k (o + 1) (by omega), hx]
      simp
      omega
    · rw [cn_add hx k (o + 1) (by omega) (by omega)]
      have e2 : (P o || decide (o = x)) = P o := by simp [e]
      rw [e2]
      omega
/-- which sessions stand on the first a places -/
def st (σ : Nat → Nat) : Nat → Nat → Bool
  | 0, _ => false
  | a + 1, o => st σ a o || decide (o = σ a)
theorem st_iff {σ : Nat → Nat} : ∀ {a o : Nat}, st σ a o = true ↔ ∃ k, k < a ∧ σ k = o
  | 0, o => ⟨fun h => by simp [st] at h, fun ⟨k, h, _⟩ => by omega⟩
  | a + 1, o => by
    unfold st
    rw [Bool.or_eq_true, st_iff, decide_eq_true_eq]
    constructor
    · rintro (⟨k, h1, h2⟩ | h)
      · exact ⟨k, by omega, h2⟩
      · exact ⟨a, by omega, h.symm⟩
    · rintro ⟨k, h1, h2⟩
      by_cases e : k = a
      · subst e; exact Or.inr h2.symm
      · exact Or.inl ⟨k, by omega, h2⟩
theorem st_cn {σ : Nat → Nat} {r : Nat} (h6 : ∀ k, k < r → σ k < 6) (hinj : ∀ a b, a < r → b < r → σ a = σ b → a = b) : ∀ a, a ≤ r → cn (st σ a) 6 0 = a
  | 0, _ => cn_false 6 0
  | a + 1, h => by
    have hx : st σ a (σ a) = false := by
      cases hc : st σ a (σ a) with
      | false => rfl
      | true =>
        obtain ⟨k, h1, h2⟩ := st_iff.mp hc
        have := hinj k a (by omega) (by omega) h2
        omega
    have e : cn (st σ (a + 1)) 6 0 = cn (fun y => st σ a y || decide (y = σ a)) 6 0 := rfl
    rw [e, cn_add hx 6 0 (Nat.zero_le _) (by have := h6 a (by omega); omega), st_cn h6 hinj a (by omega)]
theorem cnt_eq (w : Nat → Int32) (own : Int32) : ∀ k o v, cnt w own k o v = v + nI (cn (fun y => !decide (w y ≤ 0) && !decide (own ≤ w y)) k o)
  | 0, o, v => by show v = v + nI 0; rw [nI_0, Int32.add_zero]
  | k + 1, o, v => by
    unfold cnt cn
    rw [cnt_eq w own k (o + 1)]
    by_cases e : w o ≤ 0
    · simp [e]
    · by_cases e2 : own ≤ w o
      · simp [e, e2]
      · simp only [e, e2, if_false, decide_false, Bool.not_false, Bool.and_self, if_true]
        rw [← nI_add, show nI 1 = 1 from rfl, Int32.add_assoc]
theorem inR_some {w : Nat → Int32} {x : Int32} {s : Nat} : ∀ k j, j ≤ s → s < j + k → (∀ o, j ≤ o → o < j + k → ((¬ w o ≤ 0 ∧ cnt w (w o) 6 0 0 = x) ↔ o = s)) → inR w x k j = nI s
  | 0, j, h1, h2, h => by omega
  | k + 1, j, h1, h2, h => by
    unfold inR
    have hj := h j (Nat.le_refl _) (by omega)
    by_cases e : w j ≤ 0
    · rw [if_pos e]
      have : j ≠ s := fun e2 => (hj.mpr e2).1 e
      exact inR_some k (j + 1) (by omega) (by omega) (fun o h3 h4 => h o (by omega) (by omega))
    · rw [if_neg e]
      by_cases e2 : cnt w (w j) 6 0 0 = x
      · rw [if_pos e2, hj.mp ⟨e, e2⟩]
      · rw [if_neg e2]
        have : j ≠ s := fun e3 => e2 (hj.mpr e3).2
        exact inR_some k (j + 1) (by omega) (by omega) (fun o h3 h4 => h o (by omega) (by omega))
theorem inR_none {w : Nat → Int32} {x : Int32} : ∀ k j, (∀ o, j ≤ o → o < j + k → ¬ (¬ w o ≤ 0 ∧ cnt w (w o) 6 0 0 = x)) → inR w x k j = -1
  | 0, j, h => rfl
  | k + 1, j, h => by
    unfold inR
    have hj := h j (Nat.le_refl _) (by omega)
    by_cases e : w j ≤ 0
    · rw [if_pos e]
      exact inR_none k (j + 1) (fun o h3 h4 => h o (by omega) (by omega))
    · rw [if_neg e]
      by_cases e2 : cnt w (w j) 6 0 0 = x
      · exact absurd ⟨e, e2⟩ hj
      · rw [if_neg e2]
        exact inR_none k (j + 1) (fun o h3 h4 => h o (by omega) (by omega))
section RR
variable {r n : Nat} {sl tm op w t : Nat → Int32}
/-- the rank of the a-th -/
theorem rr_cnt {σ ω : Nat → Nat} (hn : n < 2 ^ 31) (h1 : ∀ k, k < r → σ k < 6 ∧ sl k = nI (σ k) ∧ op (σ k) ≠ 0 ∧ tm k = t (σ k) ∧ 0 < ω k ∧ ω k ≤ n ∧ w (σ k) = nI (ω k))
    (h2 : ∀ k k', k < k' → k' < r → ω k < ω k') (h3 : ∀ s, s < 6 → w s = 0 ∨ ∃ k, k < r ∧ σ k = s) {a : Nat} (ha : a < r) : cnt w (w (σ a)) 6 0 0 = nI a := by
  have hinj : ∀ a b, a < r → b < r → σ a = σ b → a = b := by
    intro a b ha hb e
    have q1 := (h1 a ha).2.2.2.2.2.2
    have q2 := (h1 b hb).2.2.2.2.2.2
    rw [e, q2] at q1
    exact ne_of_inc h2 ha hb (nI_inj (by have := (h1 b hb).2.2.2.2.2.1; omega) (by have := (h1 a ha).2.2.2.2.2.1; omega) q1).symm
  rw [cnt_eq, Int32.zero_add]
  congr 1
  refine Eq.trans ?_ (st_cn (r := r) (fun k hk => (h1 k hk).1) hinj a (Nat.le_of_lt ha))
  refine cn_congr 6 0 (fun o _ ho => ?_)
  rw [Bool.eq_iff_iff, st_iff]
  obtain ⟨-, -, -, -, p1, p2, p3⟩ := h1 a ha
  constructor
  · intro h
    simp only [Bool.and_eq_true, Bool.not_eq_true', decide_eq_false_iff_not] at h
    rcases h3 o (by omega) with e | ⟨k, hk, e⟩
    · rw [e] at h
      exact absurd (Int32.le_refl 0) h.1
    · refine ⟨k, ?_, e⟩
      obtain ⟨-, -, -, -, q1, q2, q3⟩ := h1 k hk
      rw [← e, q3, p3] at h
      have : ω k < ω a := by
        rcases Nat.lt_or_ge (ω k) (ω a) with h4 | h4
        · exact h4
        · exact absurd (nI_le h4 (by omega)) h.2
      exact (le_of_inc h2 hk ha).mp this
  · rintro ⟨k, hk, e⟩
    obtain ⟨-, -, -, -, q1, q2, q3⟩ := h1 k (by omega)
    have := h2 k a hk ha
    simp only [Bool.and_eq_true, Bool.not_eq_true', decide_eq_false_iff_not]
    rw [← e, q3, p3]
    exact ⟨nI_nle q1 (by omega), nI_ge this (by omega)⟩
theorem rr_at (hn : n < 2 ^ 31) (h : rr r sl tm op w t n) {k : Nat} (hk : k < r) : inR w (nI k) 6 0 = sl k := by
  obtain ⟨σ, ω, h1, h2, h3⟩ := h
  have hc := fun {a : Nat} (ha : a < r) => rr_cnt (sl := sl) (tm := tm) (op := op) (t := t) hn h1 h2 h3 ha
  have hr6 : r ≤ n := by
    have key : ∀ a, a < r → a < ω a := by
      intro a
      induction a with
      | zero => intro h; exact (h1 0 h).2.2.2.2.1
      | succ a ih => intro h; have := ih (by omega); have := h2 a (a + 1) (by omega) h; omega
    rcases Nat.eq_zero_or_pos r with e | e
    · omega
    · have := key (r - 1) (by omega); have := (h1 (r - 1) (by omega)).2.2.2.2.2.1; omega
  rw [(h1 k hk).2.1]
  refine inR_some 6 0 (Nat.zero_le _) (by have := (h1 k hk).1; omega) (fun o _ ho => ?_)
  constructor
  · rintro ⟨e1, e2⟩
    rcases h3 o (by omega) with e | ⟨a, ha, e⟩
    · rw [e] at e1
      exact absurd (Int32.le_refl 0) e1
    · rw [← e, hc ha] at e2
      rw [← e, nI_inj (by omega) (by omega) e2]
  · rintro rfl
    exact ⟨by rw [(h1 k hk).2.2.2.2.2.2]; exact nI_nle (h1 k hk).2.2.2.2.1 (by have := (h1 k hk).2.2.2.2.2.1; omega), hc hk⟩
theorem rr_none (hn : n < 2 ^ 31) (hr : r ≤ 6) (h : rr r sl tm op w t n) {x : Int32} (hx : dN x r = none) : inR w x 6 0 = -1 := by
  obtain ⟨σ, ω, h1, h2, h3⟩ := h
  refine inR_none 6 0 (fun o _ ho => ?_)
  rintro ⟨e1, e2⟩
  rcases h3 o (by omega) with e | ⟨a, ha, e⟩
  · rw [e] at e1
    exact absurd (Int32.le_refl 0) e1
  · rw [← e, rr_cnt (sl := sl) (tm := tm) (op := op) (t := t) hn h1 h2 h3 ha] at e2
    rw [← e2, dN_nI (by omega) ha] at hx
    cases hx
/-- a session that isn't in the row has no wish -/
theorem rr_out (h : rr r sl tm op w t n) {s : Nat} (hs : s < 6) (hp : pl sl (nI s) r 0 = none) : w s = 0 := by
  obtain ⟨σ, ω, h1, h2, h3⟩ := h
  rcases h3 s hs with e | ⟨k, hk, e⟩
  · exact e
  · exfalso
    refine pl_none hp k (Nat.zero_le _) (by omega) ?_
    rw [(h1 k hk).2.1, e]
/-- one that is in it has one -/
theorem rr_in (hn : n < 2 ^ 31) (h : rr r sl tm op w t n) {s p : Nat} (hs : s < 6) (hp : pl sl (nI s) r 0 = some p) : w s ≠ 0 ∧ op s ≠ 0 := by
  obtain ⟨σ, ω, h1, h2, h3⟩ := h
  obtain ⟨-, hp1, hp2, -⟩ := pl_some hp
  obtain ⟨q1, q2, q3, -, q5, q6, q7⟩ := h1 p (by omega)
  have e : σ p = s := nI_inj (by omega) (by omega) (q2.symm.trans hp2)
  rw [← e]
  refine ⟨?_, q3⟩
  rw [q7]
  exact nI_ne0 q5 (by omega)
theorem rr_wish (h : rr r sl tm op w t n) {s : Nat} (hs : s < 6) (hw : w s ≠ 0) : ∃ p, pl sl (nI s) r 0 = some p := by
  cases hp : pl sl (nI s) r 0 with
  | none => exact absurd (rr_out h hs hp) hw
  | some p => exact ⟨p, rfl⟩
/-- taken out -/
theorem rr_drop (hn : n < 2 ^ 31) (h : rr r sl tm op w t n) {s p : Nat} (hs : s < 6) (hp : pl sl (nI s) r 0 = some p) {sl' tm' w' : Nat → Int32} (hsl : ∀ k, k < r - 1 → sl' k = if k < p then sl k else sl (k + 1)) (htm : ∀ k, k < r - 1 → tm' k = if k < p then tm k else tm (k + 1)) (hw : ∀ o, o < 6 → w' o = if o = s then 0 else w o) : rr (r - 1) sl' tm' op w' t n := by
  obtain ⟨σ, ω, h1, h2, h3⟩ := h
  obtain ⟨-, hp1, hp2, -⟩ := pl_some hp
  have hp1 : p < r := by omega
  have hps : σ p = s := by
    obtain ⟨q1, q2, -⟩ := h1 p hp1
    exact nI_inj (by omega) (by omega) (q2.symm.trans hp2)
  have hne : ∀ k, k < r → k ≠ p → σ k ≠ s := by
    intro k hk hkp e
    have q1 := (h1 k hk).2.2.2.2.2.2
    have q2 := (h1 p hp1).2.2.2.2.2.2
    rw [e, ← hps, q2] at q1
    exact hkp (ne_of_inc h2 hp1 hk (nI_inj (by have := (h1 p hp1).2.2.2.2.2.1; omega) (by have := (h1 k hk).2.2.2.2.2.1; omega) q1)).symm
  refine ⟨fun k => if k < p then σ k else σ (k + 1), fun k => if k < p then ω k else ω (k + 1), fun k hk => ?_, fun k k' hkk hk => ?_, fun o ho => ?_⟩
  · dsimp only
    by_cases e : k < p
    · simp only [if_pos e]
      obtain ⟨q1, q2, q3, q4, q5, q6, q7⟩ := h1 k (by omega)
      refine ⟨q1, by rw [hsl k hk, if_pos e]; exact q2, q3, by rw [htm k hk, if_pos e]; exact q4, q5, q6, ?_⟩
      rw [hw _ q1, if_neg (hne k (by omega) (by omega))]
      exact q7
    · simp only [if_neg e]
      obtain ⟨q1, q2, q3, q4, q5, q6, q7⟩ := h1 (k + 1) (by omega)
      refine ⟨q1, by rw [hsl k hk, if_neg e]; exact q2, q3, by rw [htm k hk, if_neg e]; exact q4, q5, q6, ?_⟩
      rw [hw _ q1, if_neg (hne (k + 1) (by omega) (by omega))]
      exact q7
  · dsimp only
    by_cases e : k < p <;> by_cases e' : k' < p
    · simp only [if_pos e, if_pos e']; exact h2 k k' hkk (by omega)
    · simp only [if_pos e, if_neg e']; exact h2 k (k' + 1) (by omega) (by omega)
    · omega
    · simp only [if_neg e, if_neg e']; exact h2 (k + 1) (k' + 1) (by omega) (by omega)
  · rw [hw o ho]
    by_cases e : o = s
    · rw [if_pos e]; exact Or.inl rfl
    · rw [if_neg e]
      rcases h3 o ho with e1 | ⟨k, hk, e1⟩
      · exact Or.inl e1
      · have hkp : k ≠ p := by
          intro e2
          subst e2
          exact e (e1.symm.trans hps)
        by_cases e2 : k < p
        · exact Or.inr ⟨k, by omega, by dsimp only; rw [if_pos e2]; exact e1⟩
        · refine Or.inr ⟨k - 1, by omega, ?_⟩
          dsimp only
          rw [if_neg (by omega), show k - 1 + 1 = k by omega]
          exact e1
/-- a session that isn't in it finds room -/
theorem rr_room (hn : n < 2 ^ 31) (h : rr r sl tm op w t n) {s : Nat} (hs : s < 6) (hp : pl sl (nI s) r 0 = none) : r < 6 := by
  have hw := rr_out h hs hp
  obtain ⟨σ, ω, h1, h2, h3⟩ := h
  have hinj : ∀ a b, a < r → b < r → σ a = σ b → a = b := by
    intro a b ha hb e
    have q1 := (h1 a ha).2.2.2.2.2.2
    have q2 := (h1 b hb).2.2.2.2.2.2
    rw [e, q2] at q1
    exact ne_of_inc h2 ha hb (nI_inj (by have := (h1 b hb).2.2.2.2.2.1; omega) (by have := (h1 a ha).2.2.2.2.2.1; omega) q1).symm
  have hc := st_cn (r := r) (fun k hk => (h1 k hk).1) hinj r (Nat.le_refl _)
  have hx : st σ r s = false := by
    cases hh : st σ r s with
    | false => rfl
    | true =>
      obtain ⟨k, hk, e⟩ := st_iff.mp hh
      exfalso
      refine pl_none hp k (Nat.zero_le _) (by omega) ?_
      rw [(h1 k hk).2.1, e]
  have := cn_lt hx 6 0 (Nat.zero_le _) (by omega)
  omega
/-- put behind it -/
theorem rr_push (hn : n + 1 < 2 ^ 31) (h : rr r sl tm op w t n) {s : Nat} (hs : s < 6) (ho : op s ≠ 0) (hp : pl sl (nI s) r 0 = none) {v : Int32} {sl' tm' w' t' : Nat → Int32} (hsl : ∀ k, k < r → sl' k = sl k) (hsr : sl' r = nI s) (htm : ∀ k, k < r → tm' k = tm k) (htr : tm' r = v) (hw : ∀ o, o < 6 → w' o = if o = s then nI (n + 1) else w o) (ht : ∀ o, o < 6 → t' o = if o = s then v else t o) : rr (r + 1) sl' tm' op w' t' (n + 1) := by
  obtain ⟨σ, ω, h1, h2, h3⟩ := h
  have hne : ∀ k, k < r → σ k ≠ s := by
    intro k hk e
    refine pl_none hp k (Nat.zero_le _) (by omega) ?_
    rw [(h1 k hk).2.1, e]
  refine ⟨fun k => if k < r then σ k else s, fun k => if k < r then ω k else n + 1, fun k hk => ?_, fun k k' hkk hk => ?_, fun o ho => ?_⟩
  · dsimp only
    by_cases e : k < r
    · simp only [if_pos e]
      obtain ⟨q1, q2, q3, q4, q5, q6, q7⟩ := h1 k e
      refine ⟨q1, by rw [hsl k e]; exact q2, q3, ?_, q5, by omega, ?_⟩
      · rw [htm k e, ht _ q1, if_neg (hne k e)]; exact q4
      · rw [hw _ q1, if_neg (hne k e)]; exact q7
    · have e2 : k = r := by omega
      subst e2
      simp only [if_neg e]
      exact ⟨hs, hsr, ho, by rw [htr, ht _ hs, if_pos rfl], by omega, Nat.le_refl _, by rw [hw _ hs, if_pos rfl]⟩
  · dsimp only
    by_cases e' : k' < r
    · simp only [if_pos e', if_pos (show k < r by omega)]; exact h2 k k' hkk e'
    · simp only [if_neg e', if_pos (show k < r by omega)]; have := (h1 k (by omega)).2.2.2.2.2.1; omega
  · rw [hw o ho]
    by_cases e : o = s
    · exact Or.inr ⟨r, by omega, by dsimp only; rw [if_neg (by omega)]; exact e.symm⟩
    · rw [if_neg e]
      rcases h3 o ho with e1 | ⟨k, hk, e1⟩
      · exact Or.inl e1
      · exact Or.inr ⟨k, by omega, by dsimp only; rw [if_pos hk]; exact e1⟩
/-- another term, at its place -/
theorem rr_term (hn : n < 2 ^ 31) (h : rr r sl tm op w t n) {s p : Nat} (hs : s < 6) (hp : pl sl (nI s) r 0 = some p) {v : Int32} {tm' t' : Nat → Int32} (htm : ∀ k, k < r → tm' k = if k = p then v else tm k) (ht : ∀ o, o < 6 → t' o = if o = s then v else t o) : rr r sl tm' op w t' n := by
  obtain ⟨σ, ω, h1, h2, h3⟩ := h
  obtain ⟨-, hp1, hp2, -⟩ := pl_some hp
  have hp1 : p < r := by omega
  have hps : σ p = s := by
    obtain ⟨q1, q2, -⟩ := h1 p hp1
    exact nI_inj (by omega) (by omega) (q2.symm.trans hp2)
  refine ⟨σ, ω, fun k hk => ?_, h2, h3⟩
  obtain ⟨q1, q2, q3, q4, q5, q6, q7⟩ := h1 k hk
  refine ⟨q1, q2, q3, ?_, q5, q6, q7⟩
  rw [htm k hk, ht _ q1]
  by_cases e : k = p
  · subst e
    rw [if_pos rfl, if_pos hps]
  · have : σ k ≠ s := by
      intro e2
      have r2 := (h1 p hp1).2.2.2.2.2.2
      rw [e2, ← hps, r2] at q7
      exact e (ne_of_inc h2 hp1 hk (nI_inj (by have := (h1 p hp1).2.2.2.2.2.1; omega) (by omega) q7)).symm
    rw [if_neg e, if_neg this]
    exact q4
theorem rr_congr (h : rr r sl tm op w t n) {sl' tm' op' w' t' : Nat → Int32} {n' : Nat} (hsl : ∀ k, k < r → sl' k = sl k) (htm : ∀ k, k < r → tm' k = tm k) (hop : ∀ s, s < 6 → op s ≠ 0 → op' s ≠ 0) (hw : ∀ s, s < 6 → w' s = w s) (ht : ∀ s, s < 6 → t' s = t s) (hn : n ≤ n') : rr r sl' tm' op' w' t' n' := by
  obtain ⟨σ, ω, h1, h2, h3⟩ := h
  refine ⟨σ, ω, fun k hk => ?_, h2, fun s hs => by rw [hw s hs]; exact h3 s hs⟩
  obtain ⟨q1, q2, q3, q4, q5, q6, q7⟩ := h1 k hk
  exact ⟨q1, by rw [hsl k hk]; exact q2, hop _ q1 q3, by rw [htm k hk, ht _ q1]; exact q4, q5, by omega, by rw [hw _ q1]; exact q7⟩
/-- a session that isn't in the row may close -/
theorem rr_close (h : rr r sl tm op w t n) {s : Nat} (hw : w s = 0) (hn : n < 2 ^ 31) {op' : Nat → Int32} (hop : ∀ o, o < 6 → o ≠ s → op' o = op o) : rr r sl tm op' w t n := by
  obtain ⟨σ, ω, h1, h2, h3⟩ := h
  refine ⟨σ, ω, fun k hk => ?_, h2, h3⟩
  obtain ⟨q1, q2, q3, q4, q5, q6, q7⟩ := h1 k hk
  have : σ k ≠ s := by
    intro e
    rw [e, hw] at q7
    exact nI_ne0 q5 (by omega) q7.symm
  exact ⟨q1, q2, by rw [hop _ q1 this]; exact q3, q4, q5, q6, q7⟩
theorem rr_zero {r0 : r = 0} (hw : ∀ s, s < 6 → w s = 0) : rr r sl tm op w t n := ⟨fun _ => 0, fun _ => 0, fun k hk => by omega, fun k k' h1 h2 => by omega, fun s hs => Or.inl (hw s hs)⟩
end RR
