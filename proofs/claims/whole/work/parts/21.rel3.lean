/-! ENDINGS, TICK, ACQUIRE -/
theorem hold_iff {M N : Mem} {n i : Nat} (h : Rel M N n) (hi : i < 4) (x : Int32) : N 5 i = x + 1 ↔ M (9 + i) 1 = x := by
  rw [(h.2.2.2.1 i hi).1, i1_inj]
theorem free_iff {M N : Mem} {n i : Nat} (h : Rel M N n) (hi : i < 4) : N 5 i = 0 ↔ M (9 + i) 1 = -1 := by
  have := hold_iff h hi (-1)
  rw [show (-1 : Int32) + 1 = 0 from rfl] at this
  exact this
theorem fre_iff {M : Mem} {i : Nat} : freV M i = 0 ↔ M (9 + i) 1 ≠ -1 := by
  unfold freV
  by_cases e : M (9 + i) 1 = -1
  · rw [if_pos e]; exact ⟨fun h => absurd h (by decide), fun h => absurd e h⟩
  · rw [if_neg e]; exact ⟨fun _ => e, fun _ => rfl⟩
/-- the session s has no wish -/
def noW (N : Mem) (s : Nat) : Prop := ∀ i, i < 4 → N 10 (i * 6 + s) = 0
theorem ov_w {N : Mem} {i s a : Nat} (ha : a < 4) (h : N 10 (a * 6 + s) = 0) : ovM N i 10 (a * 6 + s) = 0 := by
  unfold ovM
  cases dN (inV (up N 5 i 0) i 0) 6 with
  | none => dsimp only; rw [up_n (by omega)]; exact h
  | some b =>
    dsimp only
    by_cases e : a * 6 + s = i * 6 + b
    · rw [e]; unfold mlM; simp [up_e]
    · rw [ml_n (by omega) (by omega), up_n (by omega)]; exact h
theorem ov_ses {N : Mem} {i k r : Nat} (hk : k = 0 ∨ k = 1 ∨ k = 2 ∨ k = 3 ∨ k = 4) : ovM N i k r = N k r := by
  unfold ovM
  cases dN (inV (up N 5 i 0) i 0) 6 with
  | none => dsimp only; rw [up_n (by omega)]
  | some b => dsimp only; rw [ml_n (by omega) (by omega), up_n (by omega)]
theorem Rel_dpA {n s : Nat} (hn : n < 2 ^ 31) (hs : s < 6) : ∀ (k i : Nat) {M N : Mem}, i + k = 4 → Rel M N n → (∀ a, a < i → N 10 (a * 6 + s) = 0) → Rel (dpA (nI s) k i M) (gwM s k i N) n ∧ noW (gwM s k i N) s
  | 0, i, M, N, hk, h, hz => ⟨h, fun a ha => hz a (by omega)⟩
  | k + 1, i, M, N, hk, h, hz => by
    unfold dpA gwM
    refine Rel_dpA hn hs k (i + 1) (by omega) (Rel_drp hn h (by omega) hs) (fun a ha => ?_)
    rw [up_e]
    by_cases e : a = i
    · subst e; rw [if_pos ⟨rfl, rfl⟩]
    · rw [if_neg (by omega)]; exact hz a (by omega)
theorem Rel_esM {n s : Nat} (hn : n < 2 ^ 31) (hs : s < 6) : ∀ (k i : Nat) {M N : Mem} {v : Int32}, i + k = 4 → Rel M N n → noW N s → Rel (esM (nI s) k i M) (gnM s k i N) n ∧ noW (gnM s k i N) s ∧ esV (nI s) k i M v = gnV s k i N v
  | 0, i, M, N, v, hk, h, hz => ⟨h, hz, rfl⟩
  | k + 1, i, M, N, v, hk, h, hz => by
    unfold esM gnM esV gnV
    by_cases e : M (9 + i) 1 = nI s
    · have e2 := (hold_iff h (by omega) (nI s)).mpr e
      rw [if_pos e, if_pos e2, if_pos e, if_pos e2]
      exact Rel_esM hn hs k (i + 1) (by omega) (Rel_ps hn h (by omega)) (fun a ha => ov_w ha (hz a ha))
    · have e2 : ¬ N 5 i = nI s + 1 := fun e3 => e ((hold_iff h (by omega) (nI s)).mp e3)
      rw [if_neg e, if_neg e2, if_neg e, if_neg e2]
      exact Rel_esM hn hs k (i + 1) (by omega) h hz
theorem Rel_end {M N : Mem} {n s : Nat} (hn : n < 2 ^ 31) (h : Rel M N n) (hs : s < 6) : Rel (endM M s (nI s)) (goM N s) n ∧ endV M (nI s) = goV N s := by
  obtain ⟨a1, a2⟩ := Rel_dpA hn hs 4 0 (by omega) h (fun a ha => by omega)
  obtain ⟨b1, b2, b3⟩ := Rel_esM (v := 0) hn hs 4 0 (by omega) a1 a2
  refine ⟨?_, b3⟩
  have ok := ok_end (x := nI s) h.1 hs
  unfold endM at ok
  unfold endM goM
  generalize esM (nI s) 4 0 (dpA (nI s) 4 0 M) = M1 at *
  generalize gnM s 4 0 (gwM s 4 0 N) = N1 at *
  obtain ⟨h1, h2, h3, h4, h5⟩ := b1
  refine ⟨ok, ?_, fun j hj => ?_, fun i hi => ?_, fun i hi => ?_⟩
  · unfold RB
    rw [up_n (by omega), up_n (by omega)]
    exact h2
  · by_cases e : j = s
    · subst e
      obtain ⟨q0, q1, q2, q3⟩ := h3 j hj
      unfold RSs
      simp only [up_e]
      simp [q1, q2, q3]
    · refine RSs_c (h3 j hj) (up_n (by omega)) ?_ ?_ ?_ ?_ <;> simp [up_e, e]
  · refine RLk_c (h4 i hi) (up_n (by omega)) ?_ ?_ ?_ ?_ ?_ ?_ ?_ <;> (rw [up_n (by omega)])
  · unfold RRw
    rw [rn_up (by omega), up_n (k' := 17 + i) (by omega), up_n (k' := 21 + i) (by omega), up_n (k' := 9 + i) (by omega)]
    refine ⟨?_, (h5 i hi).2⟩
    refine rr_congr (rr_close (op' := fun o => up M1 (3 + s) 0 0 (3 + o) 0) (h5 i hi).1 (s := s) (b2 i hi) hn (fun o ho hos => ?_)) (fun _ _ => rfl) (fun _ _ => rfl) (fun _ _ h => h) (fun b hb => ?_) (fun b hb => ?_) (Nat.le_refl _)
    · show up M1 (3 + s) 0 0 (3 + o) 0 = M1 (3 + o) 0
      rw [up_n (by omega)]
    · unfold wsh
      rw [up_n (by omega)]
    · rw [up_n (by omega)]
theorem Rel_mv {n : Nat} {d : Int32} : ∀ (k j : Nat) {M N : Mem}, j + k = 6 → Rel M N n → Rel (mvM d k j M) (mmv d k j N) n
  | 0, j, M, N, hk, h => h
  | k + 1, j, M, N, hk, h => by
    unfold mvM mmv
    apply Rel_mv k (j + 1) (by omega)
    obtain ⟨q0, q1, q2, q3⟩ := h.2.2.1 j (by omega)
    rw [← q0, ← q2, ← q3]
    by_cases e : M (3 + j) 0 = 0
    · rw [if_pos e, if_pos e]; exact h
    · rw [if_neg e, if_neg e]; exact Rel_ses (r := 3) h (by omega) (by omega)
theorem Rel_sl {n : Nat} (hn : n < 2 ^ 31) : ∀ (k j : Nat) {M N : Mem} {v : Int32}, j + k = 6 → Rel M N n → Rel (slM k j M) (mslM k j N) n ∧ slV k j M v = mslV k j N v
  | 0, j, M, N, v, hk, h => ⟨h, rfl⟩
  | k + 1, j, M, N, v, hk, h => by
    unfold slM mslM slV mslV
    obtain ⟨q0, q1, q2, q3⟩ := h.2.2.1 j (by omega)
    obtain ⟨g1, g2⟩ := Rel_end hn h (s := j) (by omega)
    rw [← q0, ← q1, ← h.2.1.2, ← g2]
    by_cases e : M (3 + j) 0 = 0
    · simp only [if_pos e]; exact Rel_sl hn k (j + 1) (by omega) h
    · simp only [if_neg e]
      by_cases e2 : M 0 2 - M (3 + j) 1 ≤ 50
      · simp only [if_pos e2]; exact Rel_sl hn k (j + 1) (by omega) h
      · simp only [if_neg e2]; exact Rel_sl hn k (j + 1) (by omega) g1
theorem Rel_du {n : Nat} (hn : n < 2 ^ 31) : ∀ (k i : Nat) {M N : Mem} {v : Int32}, i + k = 4 → Rel M N n → Rel (duM k i M) (mduM k i N) n ∧ duV k i M v = mduV k i N v
  | 0, i, M, N, v, hk, h => ⟨h, rfl⟩
  | k + 1, i, M, N, v, hk, h => by
    unfold duM mduM duV mduV
    have q4 := (h.2.2.2.1 i (by omega)).2.2.2.1
    rw [← q4, ← h.2.1.2]
    by_cases e : M (9 + i) 1 = -1
    · have f1 : ¬ freV M i = 0 := fun z => fre_iff.mp z e
      have f2 := (free_iff h (i := i) (by omega)).mpr e
      simp only [if_neg f1, if_pos f2]
      exact Rel_du hn k (i + 1) (by omega) h
    · have f1 : freV M i = 0 := fre_iff.mpr e
      have f2 : ¬ N 5 i = 0 := fun z => e ((free_iff h (i := i) (by omega)).mp z)
      simp only [if_pos f1, if_neg f2]
      by_cases e2 : M 0 2 < M (9 + i) 3
      · have e3 : ¬ M (9 + i) 3 ≤ M 0 2 := Int32.not_le.mpr e2
        simp only [if_pos e2, if_neg e3]
        exact Rel_du hn k (i + 1) (by omega) h
      · have e3 : M (9 + i) 3 ≤ M 0 2 := Int32.not_lt.mp e2
        simp only [if_neg e2, if_pos e3]
        exact Rel_du hn k (i + 1) (by omega) (Rel_ps hn h (by omega))
theorem duV_add : ∀ (k i : Nat) (M : Mem) (a b : Int32), duV k i M (a + b) = a + duV k i M b
  | 0, i, M, a, b => rfl
  | k + 1, i, M, a, b => by
    unfold duV
    rw [← duV_add k (i + 1)]
    congr 1
    by_cases e : freV M i = 0
    · simp only [if_pos e]
      by_cases e2 : M 0 2 < M (9 + i) 3
      · simp only [if_pos e2]
      · simp only [if_neg e2]; exact Int32.add_assoc _ _ _
    · simp only [if_neg e]
theorem Rel_tick {M N : Mem} {n : Nat} {d : Int32} (hn : n < 2 ^ 31) (h : Rel M N n) : Rel (tcM M d) (mtcM N d) n ∧ tcV M d = mtcV N d := by
  unfold tcM mtcM tcV mtcV
  by_cases e : d < 0
  · simp only [if_pos e]; exact ⟨h, trivial⟩
  · simp only [if_neg e]
    by_cases e2 : d ≤ 100
    · simp only [if_pos e2]
      unfold tiM mtM tiV mtV tiA mtA
      have a1 : Rel (up M 0 2 (M 0 2 + d)) (up N 0 0 (N 0 0 + d)) n := by rw [h.2.1.2]; exact Rel_time h
      have a2 := Rel_mv (d := d) 6 0 (by omega) a1
      obtain ⟨a3, a4⟩ := Rel_sl (v := 0) hn 6 0 (by omega) a2
      obtain ⟨a5, a6⟩ := Rel_du (v := slV 6 0 (mvM d 6 0 (up M 0 2 (M 0 2 + d))) 0) hn 4 0 (by omega) a3
      refine ⟨a5, ?_⟩
      rw [← a4, ← a6, ← duV_add, Int32.add_zero]
    · simp only [if_neg e2]; exact ⟨h, trivial⟩
theorem Rel_aqA {M N : Mem} {n j : Nat} (h : Rel M N n) (hj : j < 6) : Rel (aqA M j) (maA N j) n := by
  unfold aqA maA
  have h2 := Rel_t 0 h
  rw [h2.2.1.2]
  exact Rel_ses (r := 1) h2 hj (by omega)
theorem aqA_n {M : Mem} {j k : Nat} (h : k ≠ 3 + j) : aqA M j k = M k := up_n h
theorem Rel_renew {M N : Mem} {n i j : Nat} {t : Int32} (h : Rel M N n) (hi : i < 4) (hj : j < 6) : Rel (rwM M i t (M 0 2) (M (3 + j) 3)) (maR N j i t) n := by
  have hh := h
  obtain ⟨h1, h2, h3, h4, h5⟩ := h
  obtain ⟨q1, q2, q3, q4, q5, q6, q7, q8⟩ := h4 i hi
  have q9 := (h3 j hj).2.2.2
  unfold rwM maR
  rw [← h2.2, ← q4]
  by_cases e : M 0 2 + t ≤ M (9 + i) 3
  · simp only [if_pos e]; exact hh
  · simp only [if_neg e]
    refine Rel_lock hh hi (fun k hk => rf_n hk) (fun k r hk => ?_) ?_ (fun e9 => (h5 i hi).2 (by unfold rfM at e9; simpa [up_e] using e9))
    · simp only [up_e]
      rw [if_neg (by omega), if_neg (by omega), if_neg (by omega)]
    · unfold RLk rfM
      simp only [up_e]
      simp [q1, q3, q7, q8, q9]
      simpa using q2
theorem Rel_acq {M N : Mem} {n j i : Nat} {t : Int32} (hn : n + 1 < 2 ^ 31) (h : Rel M N n) (hj : j < 6) (hi : i < 4) (ho : M (3 + j) 0 ≠ 0) : (∃ n', n ≤ n' ∧ n' ≤ n + 1 ∧ Rel (aqM M j i t) (maM N j i t) n') ∧ aqV M j i t = maV N j i t := by
  have hA := Rel_aqA h hj
  have hoA : aqA M j (3 + j) 0 ≠ 0 := by unfold aqA; rw [up_e, if_neg (by omega)]; exact ho
  have tok : ∀ {M' N' : Mem} {n' : Nat}, Rel M' N' n' → M' (9 + i) 2 = N' 6 i := fun h' => (h'.2.2.2.1 i hi).2.2.1
  unfold aqV maV aqM maM
  by_cases e : aqA M j (9 + i) 1 = nI j
  · have e2 := (hold_iff hA hi (nI j)).mpr e
    simp only [if_pos e, if_pos e2]
    have r := Rel_renew (t := t) hA hi hj
    exact ⟨⟨n, Nat.le_refl _, by omega, r⟩, tok r⟩
  · have e2 : ¬ maA N j 5 i = nI j + 1 := fun z => e ((hold_iff hA hi (nI j)).mp z)
    simp only [if_neg e, if_neg e2]
    by_cases f : aqA M j (9 + i) 1 = -1
    · have f1 : ¬ freV (aqA M j) i = 0 := fun z => fre_iff.mp z f
      have f2 := (free_iff hA hi).mpr f
      simp only [if_neg f1, if_pos f2]
      have r := Rel_lend (t := t) (by omega) hA hi hj f
      exact ⟨⟨n, Nat.le_refl _, by omega, r⟩, tok r⟩
    · have f1 : freV (aqA M j) i = 0 := fre_iff.mpr f
      have f2 : ¬ maA N j 5 i = 0 := fun z => f ((free_iff hA hi).mp z)
      simp only [if_pos f1, if_neg f2]
      exact ⟨Rel_ask hn hA hi hj hoA f, trivial⟩
/-! THE ANSWERS -/
theorem A_hold {M N : Mem} {n : Nat} (h : Rel M N n) (x : Int32) : kcV M x (-1) 1 = mhdV N x := by
  unfold kcV mhdV
  cases hd : dN x 4 with
  | none => rfl
  | some j =>
    dsimp only
    rw [(h.2.2.2.1 j (dN_some (by decide) hd).1).1, Int32.add_sub_cancel]
theorem A_kc {M N : Mem} {n : Nat} (h : Rel M N n) (x d : Int32) {r s : Nat} (hr : (r = 2 ∧ s = 6) ∨ (r = 6 ∧ s = 12) ∨ (r = 7 ∧ s = 13)) : kcV M x d r = mkcV N x d s := by
  unfold kcV mkcV
  cases hd : dN x 4 with
  | none => rfl
  | some j =>
    dsimp only
    obtain ⟨q1, q2, q3, q4, q5, q6, q7, q8⟩ := h.2.2.2.1 j (dN_some (by decide) hd).1
    rcases hr with ⟨rfl, rfl⟩ | ⟨rfl, rfl⟩ | ⟨rfl, rfl⟩
    · exact q3
    · exact q7
    · exact q8
theorem A_unt {M N : Mem} {n : Nat} (h : Rel M N n) (x : Int32) : untV M x = mutV N x := by
  unfold untV mutV
  cases hd : dN x 4 with
  | none => rfl
  | some j =>
    dsimp only
    have hj := (dN_some (by decide) hd).1
    obtain ⟨q1, q2, q3, q4, -⟩ := h.2.2.2.1 j hj
    rcases q2 with e | ⟨a, ha, e⟩
    · rw [if_pos e, if_pos (by rw [q1, e]; decide)]
    · rw [if_neg (by rw [e]; exact nIs_ne ha), if_neg (by rw [q1, e, nI_1]; exact nI_nle (by omega) (by omega)), q4]
theorem A_wt {M N : Mem} {n : Nat} (hn : n < 2 ^ 31) (h : Rel M N n) (x k : Int32) : wtV M x k = mwtV N x k := by
  unfold wtV mwtV
  cases hd : dN x 4 with
  | none => rfl
  | some j =>
    dsimp only
    have hj := (dN_some (by decide) hd).1
    have hr := (h.2.2.2.2 j hj).1
    have h6 := (h.1 j hj).1
    unfold slA inV
    cases hk : dN k (rn M j) with
    | none => dsimp only; exact (rr_none hn h6 hr hk).symm
    | some a =>
      obtain ⟨ha, rfl⟩ := dN_some (by omega) hk
      dsimp only
      exact (rr_at hn hr ha).symm
theorem A_clk {M N : Mem} {n : Nat} (h : Rel M N n) (x : Int32) : clkV M x = mckV N x := by
  unfold clkV mckV
  rw [os_mo h x]
  cases hd : osV M x with
  | none => rfl
  | some j => exact (h.2.2.1 j (osV_some hd).1).2.2.2
theorem A_bl {M N : Mem} {n : Nat} (h : Rel M N n) (x y : Int32) : blV M x y = mblV N x y := by
  unfold blV mblV
  rw [os_mo h x]
  cases hd : osV M x with
  | none => rfl
  | some j =>
    obtain ⟨hj, rfl, -⟩ := osV_some hd
    dsimp only
    cases he : dN y 4 with
    | none => rfl
    | some i =>
      have hi := (dN_some (by decide) he).1
      dsimp only
      obtain ⟨q1, q2, q3, q4, q5, q6, -⟩ := h.2.2.2.1 i hi
      rw [(h.2.2.1 j hj).2.2.2, q5, q6]
      by_cases e : M (9 + i) 1 = nI j
      · rw [if_pos e, if_pos ((hold_iff h hi (nI j)).mpr e)]
      · rw [if_neg e, if_neg (fun z => e ((hold_iff h hi (nI j)).mp z))]
theorem A_wr {M N : Mem} {n : Nat} (h : Rel M N n) (x t v : Int32) : wrV M x t = mwrV N x t ∧ Rel (wrM M x t v) (mwrM N x t v) n := by
  unfold wrV mwrV wrM mwrM
  cases hd : dN x 4 with
  | none => exact ⟨rfl, h⟩
  | some j =>
    dsimp only
    have hj := (dN_some (by decide) hd).1
    obtain ⟨q1, q2, q3, q4, q5, q6, q7, q8⟩ := h.2.2.2.1 j hj
    rw [← q7]
    refine ⟨rfl, ?_⟩
    by_cases e : t < 1
    · simp only [if_pos e]; exact h
    · simp only [if_neg e]
      by_cases e2 : M (9 + j) 6 ≤ t
      · simp only [if_pos e2]
        refine Rel_lock h hj (fun k hk => by rw [up_n hk, up_n hk]) (fun k r hk => ?_) ?_ (fun e9 => (h.2.2.2.2 j hj).2 (by simpa [up_e] using e9))
        · simp only [up_e]
          rw [if_neg (by omega), if_neg (by omega)]
        · unfold RLk
          simp only [up_e]
          simp [q1, q3, q4, q5, q6]
          simpa using q2
      · simp only [if_neg e2]; exact h
theorem A_rt {M N : Mem} {n : Nat} (h : Rel M N n) (x r : Int32) : rtV M x r = mrtV N x r ∧ Rel (rtM M x r) (mrtM N x r) n := by
  unfold rtV mrtV rtM mrtM
  rw [os_mo h x]
  cases hd : osV M x with
  | none => exact ⟨rfl, h⟩
  | some j =>
    dsimp only
    refine ⟨rfl, ?_⟩
    by_cases e : r < 9
    · simp only [if_pos e]; exact h
    · simp only [if_neg e]
      by_cases e2 : r ≤ 11
      · simp only [if_pos e2]; exact Rel_ses (r := 2) h (osV_some hd).1 (by omega)
      · simp only [if_neg e2]; exact h
theorem A_cn {M N : Mem} {n : Nat} (hn : n < 2 ^ 31) (h : Rel M N n) (x y : Int32) : cnV M x y = mcnV N x y ∧ Rel (cnM M x y) (mcnM N x y) n := by
  unfold cnV mcnV cnM mcnM
  rw [os_mo h x]
  cases he : dN y 4 with
  | none => cases osV M x <;> exact ⟨rfl, h⟩
  | some i =>
    have hi := (dN_some (by decide) he).1
    have hr := (h.2.2.2.2 i hi).1
    dsimp only
    cases hd : osV M x with
    | none =>
      have hp : pl (M (17 + i)) x (rn M i) 0 = none := by
        cases hp : pl (M (17 + i)) x (rn M i) 0 with
        | none => rfl
        | some p =>
          exfalso
          obtain ⟨σ, ω, r1, -, -⟩ := hr
          obtain ⟨-, hp1, hp2, -⟩ := pl_some hp
          obtain ⟨s1, s2, s3, -⟩ := r1 p (by omega)
          have : osV M x = some (σ p) := by
            unfold osV
            rw [← hp2, s2, dN_nI (by decide) s1]
            dsimp only
            rw [if_neg s3]
          rw [hd] at this
          cases this
      dsimp only
      have e1 : drv M i x = 0 := by unfold drv; rw [hp]
      rw [if_pos e1, drp_0 hp]
      exact ⟨rfl, h⟩
    | some j =>
      obtain ⟨hj, rfl, ho⟩ := osV_some hd
      dsimp only
      cases hp : pl (M (17 + i)) (nI j) (rn M i) 0 with
      | none =>
        have e1 : drv M i (nI j) = 0 := by unfold drv; rw [hp]
        have e2 : N 10 (i * 6 + j) = 0 := rr_out hr hj hp
        rw [if_pos e1, if_pos e2, drp_0 hp, if_pos e2]
        exact ⟨rfl, h⟩
      | some p =>
        have e1 : ¬ drv M i (nI j) = 0 := by unfold drv; rw [hp]; show ¬ (1 : Int32) = 0; decide
        have e2 : ¬ N 10 (i * 6 + j) = 0 := (rr_in hn hr hj hp).1
        rw [if_neg e1, if_neg e2, if_neg e2]
        exact ⟨rfl, Rel_drp hn h hi hj⟩
theorem Rel_0 : Rel dM0 mM0 0 := by
  refine ⟨fun i hi => ?_, ⟨rfl, rfl⟩, fun j hj => ?_, fun i hi => ?_, fun i hi => ?_⟩
  · have e : dM0 (13 + i) 2 = 0 := by unfold dM0; rw [if_neg (by omega)]
    have e2 : rn dM0 i = 0 := by unfold rn; rw [e]; rfl
    rw [e2, e]
    exact ⟨by omega, rfl⟩
  · have e : ∀ r, dM0 (3 + j) r = 0 := fun r => by unfold dM0; rw [if_neg (by omega)]
    exact ⟨e 0, e 1, e 2, e 3⟩
  · have e : ∀ r, r ≠ 1 → dM0 (9 + i) r = 0 := fun r hr => by unfold dM0; rw [if_neg (by omega)]
    have e1 : dM0 (9 + i) 1 = -1 := by unfold dM0; rw [if_pos (by omega)]
    exact ⟨by rw [e1]; rfl, Or.inl e1, e 2 (by omega), e 3 (by omega), e 4 (by omega), e 5 (by omega), e 6 (by omega), e 7 (by omega)⟩
  · have e : dM0 (13 + i) 2 = 0 := by unfold dM0; rw [if_neg (by omega)]
    have e2 : rn dM0 i = 0 := by unfold rn; rw [e]; rfl
    exact ⟨rr_zero (r0 := e2) (fun _ _ => rfl), fun _ => e2⟩
