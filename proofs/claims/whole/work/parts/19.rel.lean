/-! THE DESK's MEMORY BESIDE THE REFERENCE's -/
def RB (M N : Mem) (n : Nat) : Prop := N 0 2 = nI n ∧ M 0 2 = N 0 0
def RSs (M N : Mem) (j : Nat) : Prop := M (3 + j) 0 = N 1 j ∧ M (3 + j) 1 = N 2 j ∧ M (3 + j) 2 = N 3 j ∧ M (3 + j) 3 = N 4 j
def RLk (M N : Mem) (i : Nat) : Prop := N 5 i = M (9 + i) 1 + 1 ∧ (M (9 + i) 1 = -1 ∨ ∃ h, h < 6 ∧ M (9 + i) 1 = nI h) ∧ M (9 + i) 2 = N 6 i ∧ M (9 + i) 3 = N 7 i ∧ M (9 + i) 4 = N 8 i ∧ M (9 + i) 5 = N 9 i ∧ M (9 + i) 6 = N 12 i ∧ M (9 + i) 7 = N 13 i
/-- .. and a free lock's row is empty -/
def RRw (M N : Mem) (n i : Nat) : Prop := rr (rn M i) (M (17 + i)) (M (21 + i)) (fun s => M (3 + s) 0) (wsh N i) (fun s => N 11 (i * 6 + s)) n ∧ (M (9 + i) 1 = -1 → rn M i = 0)
def Rel (M N : Mem) (n : Nat) : Prop := dk_ok M ∧ RB M N n ∧ (∀ j, j < 6 → RSs M N j) ∧ (∀ i, i < 4 → RLk M N i) ∧ ∀ i, i < 4 → RRw M N n i
theorem i1_inj {a b : Int32} : a + 1 = b + 1 ↔ a = b := by
  constructor
  · intro h
    have h2 : a + 1 - 1 = b + 1 - 1 := by rw [h]
    rwa [Int32.add_sub_cancel, Int32.add_sub_cancel] at h2
  · rintro rfl; rfl
theorem RSs_c {M N M' N' : Mem} {j : Nat} (h : RSs M N j) (hM : M' (3 + j) = M (3 + j)) (h1 : N' 1 j = N 1 j) (h2 : N' 2 j = N 2 j) (h3 : N' 3 j = N 3 j) (h4 : N' 4 j = N 4 j) : RSs M' N' j := by
  unfold RSs
  rw [hM, h1, h2, h3, h4]
  exact h
theorem RLk_c {M N M' N' : Mem} {i : Nat} (h : RLk M N i) (hM : M' (9 + i) = M (9 + i)) (h5 : N' 5 i = N 5 i) (h6 : N' 6 i = N 6 i) (h7 : N' 7 i = N 7 i) (h8 : N' 8 i = N 8 i) (h9 : N' 9 i = N 9 i) (h12 : N' 12 i = N 12 i) (h13 : N' 13 i = N 13 i) : RLk M' N' i := by
  unfold RLk
  rw [hM, h5, h6, h7, h8, h9, h12, h13]
  exact h
theorem RRw_c {M N M' N' : Mem} {n n' i : Nat} (h : RRw M N n i) (h13 : M' (13 + i) = M (13 + i)) (h17 : M' (17 + i) = M (17 + i)) (h21 : M' (21 + i) = M (21 + i)) (h9 : M' (9 + i) 1 = M (9 + i) 1) (ho : ∀ s, s < 6 → M (3 + s) 0 ≠ 0 → M' (3 + s) 0 ≠ 0) (hw : ∀ s, s < 6 → N' 10 (i * 6 + s) = N 10 (i * 6 + s)) (ht : ∀ s, s < 6 → N' 11 (i * 6 + s) = N 11 (i * 6 + s)) (hn : n ≤ n') : RRw M' N' n' i := by
  unfold RRw rn
  rw [h13, h17, h21, h9]
  exact ⟨rr_congr h.1 (fun _ _ => rfl) (fun _ _ => rfl) ho hw ht hn, h.2⟩
/-- the reference's memory but for 'thrown' -/
theorem Rel_N {M N N' : Mem} {n : Nat} (h : Rel M N n) (hN : ∀ k r, ¬ (k = 0 ∧ r = 1) → N' k r = N k r) : Rel M N' n := by
  obtain ⟨h1, h2, h3, h4, h5⟩ := h
  refine ⟨h1, ?_, fun j hj => RSs_c (h3 j hj) rfl (hN _ _ (by omega)) (hN _ _ (by omega)) (hN _ _ (by omega)) (hN _ _ (by omega)), fun i hi => RLk_c (h4 i hi) rfl (hN _ _ (by omega)) (hN _ _ (by omega)) (hN _ _ (by omega)) (hN _ _ (by omega)) (hN _ _ (by omega)) (hN _ _ (by omega)) (hN _ _ (by omega)), fun i hi => RRw_c (h5 i hi) rfl rfl rfl rfl (fun _ _ h => h) (fun _ _ => hN _ _ (by omega)) (fun _ _ => hN _ _ (by omega)) (Nat.le_refl _)⟩
  unfold RB
  rw [hN 0 2 (by omega), hN 0 0 (by omega)]
  exact h2
theorem Rel_t {M N : Mem} {n : Nat} (v : Int32) (h : Rel M N n) : Rel M (up N 0 1 v) n := Rel_N h (fun k r hk => by rw [up_e, if_neg hk])
/-! cells that stay -/
theorem bg_n {M : Mem} {j k : Nat} {v : Int32} (h : k ≠ 3 + j) : bgM M j v k = M k := by
  unfold bgM
  rw [up_n h, up_n h, up_n h, up_n h]
theorem rf_n {M : Mem} {i k : Nat} {a b c : Int32} (h : k ≠ 9 + i) : rfM M i a b c k = M k := by
  unfold rfM
  rw [up_n h, up_n h, up_n h]
theorem ln_n {M : Mem} {i k : Nat} {x a b c : Int32} (h : k ≠ 9 + i) : lnM M i x a b c k = M k := by
  unfold lnM
  rw [rf_n h, up_n h, up_n h]
theorem rw_n {M : Mem} {i k : Nat} {a b c : Int32} (h : k ≠ 9 + i) : rwM M i a b c k = M k := by
  unfold rwM
  by_cases e : b + a ≤ M (9 + i) 3
  · rw [if_pos e]
  · rw [if_neg e, rf_n h]
theorem shf_n (i : Nat) : ∀ (k j : Nat) (M : Mem) (a : Nat), a ≠ 17 + i → a ≠ 21 + i → shf i k j M a = M a
  | 0, j, M, a, h, h' => rfl
  | k + 1, j, M, a, h, h' => by
    unfold shf
    rw [shf_n i k (j + 1) _ a h h', up_n h', up_n h]
theorem shf_17 (i : Nat) (hi : i < 4) : ∀ (k j : Nat) (M : Mem) (a : Nat), shf i k j M (17 + i) a = if j ≤ a ∧ a < j + k then M (17 + i) (a + 1) else M (17 + i) a
  | 0, j, M, a => by rw [if_neg (by omega)]; rfl
  | k + 1, j, M, a => by
    unfold shf
    have key : ∀ b, (up (up M (17 + i) j (M (17 + i) (j + 1))) (21 + i) j ((up M (17 + i) j (M (17 + i) (j + 1))) (21 + i) (j + 1))) (17 + i) b = if b = j then M (17 + i) (j + 1) else M (17 + i) b := by
      intro b
      rw [up_n (by omega), up_e]
      by_cases e : b = j <;> simp [e]
    rw [shf_17 i hi k (j + 1), key, key]
    by_cases e1 : j + 1 ≤ a ∧ a < j + 1 + k
    · rw [if_pos e1, if_neg (by omega), if_pos (by omega)]
    · rw [if_neg e1]
      by_cases e2 : a = j
      · subst e2; rw [if_pos rfl, if_pos (by omega)]
      · rw [if_neg e2, if_neg (by omega)]
theorem shf_21 (i : Nat) (hi : i < 4) : ∀ (k j : Nat) (M : Mem) (a : Nat), shf i k j M (21 + i) a = if j ≤ a ∧ a < j + k then M (21 + i) (a + 1) else M (21 + i) a
  | 0, j, M, a => by rw [if_neg (by omega)]; rfl
  | k + 1, j, M, a => by
    unfold shf
    have key : ∀ b, (up (up M (17 + i) j (M (17 + i) (j + 1))) (21 + i) j ((up M (17 + i) j (M (17 + i) (j + 1))) (21 + i) (j + 1))) (21 + i) b = if b = j then M (21 + i) (j + 1) else M (21 + i) b := by
      intro b
      rw [up_e]
      by_cases e : b = j
      · rw [if_pos ⟨rfl, e⟩, if_pos e, up_n (by omega)]
      · rw [if_neg (fun h => e h.2), if_neg e, up_n (by omega)]
    rw [shf_21 i hi k (j + 1), key, key]
    by_cases e1 : j + 1 ≤ a ∧ a < j + 1 + k
    · rw [if_pos e1, if_neg (by omega), if_pos (by omega)]
    · rw [if_neg e1]
      by_cases e2 : a = j
      · subst e2; rw [if_pos rfl, if_pos (by omega)]
      · rw [if_neg e2, if_neg (by omega)]
theorem drp_n {M : Mem} {i k : Nat} {x : Int32} (h1 : k ≠ 13 + i) (h2 : k ≠ 17 + i) (h3 : k ≠ 21 + i) : drp M i x k = M k := by
  unfold drp
  cases pl (M (17 + i)) x (rn M i) 0 with
  | none => rfl
  | some j => dsimp only; rw [shf_n i _ _ _ k h2 h3, up_n h1]
/-- the row when the place p is taken out -/
theorem drp_s {M : Mem} {i p : Nat} {x : Int32} (hok : dk_ok M) (hi : i < 4) (hp : pl (M (17 + i)) x (rn M i) 0 = some p) :
    rn (drp M i x) i = rn M i - 1 ∧ (∀ k, k < rn M i - 1 → drp M i x (17 + i) k = if k < p then M (17 + i) k else M (17 + i) (k + 1)) ∧ (∀ k, k < rn M i - 1 → drp M i x (21 + i) k = if k < p then M (21 + i) k else M (21 + i) (k + 1)) := by
  obtain ⟨-, hp1, -, -⟩ := pl_some hp
  have h6 := (hok i hi).1
  have e : drp M i x = shf i (rn M i - 1 - p) p (up M (13 + i) 2 (nI (rn M i - 1))) := by unfold drp; rw [hp]
  rw [e]
  refine ⟨?_, fun k hk => ?_, fun k hk => ?_⟩
  · unfold rn
    rw [shf_n i _ _ _ (13 + i) (by omega) (by omega), up_s, nI_clamp (by show rn M i - 1 < 2 ^ 31; omega)]
  · rw [shf_17 i hi, up_n (by omega)]
    by_cases e1 : k < p
    · rw [if_pos e1, if_neg (by omega)]
    · rw [if_neg e1, if_pos (by omega)]
  · rw [shf_21 i hi, up_n (by omega)]
    by_cases e1 : k < p
    · rw [if_pos e1, if_neg (by omega)]
    · rw [if_neg e1, if_pos (by omega)]
theorem drp_0 {M : Mem} {i : Nat} {x : Int32} (hp : pl (M (17 + i)) x (rn M i) 0 = none) : drp M i x = M := by
  unfold drp
  rw [hp]
theorem ask_n {M : Mem} {i k : Nat} {x t : Int32} (h1 : k ≠ 13 + i) (h2 : k ≠ 17 + i) (h3 : k ≠ 21 + i) : askM M i x t k = M k := by
  unfold askM
  cases pl (M (17 + i)) x (rn M i) 0 with
  | some j => dsimp only; rw [up_n h3]
  | none =>
    dsimp only
    by_cases e : 6 ≤ nI (rn M i)
    · rw [if_pos e]
    · rw [if_neg e, up_n h1, up_n h3, up_n h2]
/-! sessions -/
theorem os_mo {M N : Mem} {n : Nat} (h : Rel M N n) (x : Int32) : moV N x = osV M x := by
  unfold moV osV
  cases hd : dN x 6 with
  | none => rfl
  | some j =>
    dsimp only
    rw [(h.2.2.1 j (dN_some (by decide) hd).1).1]
theorem fo_mfo {M N : Mem} {n : Nat} (h : Rel M N n) : ∀ k j, j + k ≤ 6 → mfo N k j = fo M k j
  | 0, j, _ => rfl
  | k + 1, j, hk => by
    unfold mfo fo
    rw [fo_mfo h k (j + 1) (by omega), (h.2.2.1 j (by omega)).1]
theorem bg_k (M : Mem) (j : Nat) (v : Int32) : bgM M j v (3 + j) 0 = 1 ∧ bgM M j v (3 + j) 1 = v ∧ bgM M j v (3 + j) 2 = 10 ∧ bgM M j v (3 + j) 3 = 0 := by
  unfold bgM
  simp [up_e]
theorem Rel_open {M N : Mem} {n j : Nat} (h : Rel M N n) (hj : j < 6) : Rel (bgM M j (M 0 2)) (mbM N j) n := by
  obtain ⟨h1, h2, h3, h4, h5⟩ := h
  refine ⟨ok_bg h1 hj, ?_, fun a ha => ?_, fun i hi => ?_, fun i hi => ?_⟩
  · unfold RB
    rw [bg_n (by omega)]
    have e1 : mbM N j 0 2 = N 0 2 := by unfold mbM; simp [up_e]
    have e2 : mbM N j 0 0 = N 0 0 := by unfold mbM; simp [up_e]
    rw [e1, e2]
    exact h2
  · by_cases e : a = j
    · subst e
      obtain ⟨b0, b1, b2, b3⟩ := bg_k M a (M 0 2)
      refine ⟨?_, ?_, ?_, ?_⟩
      · rw [b0]; unfold mbM; simp [up_e]
      · rw [b1, h2.2]; unfold mbM; simp [up_e]
      · rw [b2]; unfold mbM; simp [up_e]
      · rw [b3]; unfold mbM; simp [up_e]
    · refine RSs_c (h3 a ha) (bg_n (by omega)) ?_ ?_ ?_ ?_ <;> (unfold mbM; simp [up_e, e])
  · refine RLk_c (h4 i hi) (bg_n (by omega)) ?_ ?_ ?_ ?_ ?_ ?_ ?_ <;> (unfold mbM; simp [up_e])
  · refine RRw_c (h5 i hi) (bg_n (by omega)) (bg_n (by omega)) (bg_n (by omega)) (by rw [bg_n (by omega)]) (fun s hs ho => ?_) (fun s hs => by unfold mbM; simp [up_e]) (fun s hs => by unfold mbM; simp [up_e]) (Nat.le_refl _)
    by_cases e : s = j
    · subst e; rw [(bg_k M s _).1]; decide
    · rw [bg_n (by omega)]; exact ho
/-- a number of a session changes, not its openness -/
theorem Rel_ses {M N : Mem} {n j r : Nat} {v : Int32} (h : Rel M N n) (hj : j < 6) (hr : r = 1 ∨ r = 2 ∨ r = 3) : Rel (up M (3 + j) r v) (up N (r + 1) j v) n := by
  obtain ⟨h1, h2, h3, h4, h5⟩ := h
  refine ⟨ok_up h1 (by omega), ?_, fun a ha => ?_, fun i hi => ?_, fun i hi => ?_⟩
  · unfold RB
    rw [up_n (by omega), up_n (by omega)]
    exact h2
  · by_cases e : a = j
    · subst e
      obtain ⟨q0, q1, q2, q3⟩ := h3 a ha
      unfold RSs
      simp only [up_e]
      rcases hr with rfl | rfl | rfl <;> simp [q0, q1, q2, q3]
    · refine RSs_c (h3 a ha) (up_n (by omega)) ?_ ?_ ?_ ?_ <;> simp [up_e, e]
  · refine RLk_c (h4 i hi) (up_n (by omega)) ?_ ?_ ?_ ?_ ?_ ?_ ?_ <;> (rw [up_n (by omega)])
  · refine RRw_c (h5 i hi) (up_n (by omega)) (up_n (by omega)) (up_n (by omega)) (by rw [up_n (by omega)]) (fun s hs ho => ?_) (fun s hs => by rw [up_n (by omega)]) (fun s hs => by rw [up_n (by omega)]) (Nat.le_refl _)
    rw [up_e, if_neg (by omega)]
    exact ho
theorem Rel_time {M N : Mem} {n : Nat} {v : Int32} (h : Rel M N n) : Rel (up M 0 2 v) (up N 0 0 v) n := by
  obtain ⟨h1, h2, h3, h4, h5⟩ := h
  refine ⟨ok_up h1 (by omega), ?_, fun a ha => RSs_c (h3 a ha) (up_n (by omega)) ?_ ?_ ?_ ?_, fun i hi => RLk_c (h4 i hi) (up_n (by omega)) ?_ ?_ ?_ ?_ ?_ ?_ ?_, fun i hi => RRw_c (h5 i hi) (up_n (by omega)) (up_n (by omega)) (up_n (by omega)) (by rw [up_n (by omega)]) (fun s hs ho => by rw [up_n (by omega)]; exact ho) (fun s hs => by rw [up_n (by omega)]) (fun s hs => by rw [up_n (by omega)]) (Nat.le_refl _)⟩
  · unfold RB
    simp [up_e, h2.1]
  all_goals (rw [up_n (by omega)])
/-- a request is taken out -/
theorem Rel_drp {M N : Mem} {n i s : Nat} (hn : n < 2 ^ 31) (h : Rel M N n) (hi : i < 4) (hs : s < 6) : Rel (drp M i (nI s)) (up N 10 (i * 6 + s) 0) n := by
  obtain ⟨h1, h2, h3, h4, h5⟩ := h
  have hr := h5 i hi
  have oth : ∀ a, a < 4 → a ≠ i → RRw (drp M i (nI s)) (up N 10 (i * 6 + s) 0) n a := by
    intro a ha e
    refine RRw_c (h5 a ha) (drp_n (by omega) (by omega) (by omega)) (drp_n (by omega) (by omega) (by omega)) (drp_n (by omega) (by omega) (by omega)) (by rw [drp_n (by omega) (by omega) (by omega)]) (fun b hb ho => by rw [drp_n (by omega) (by omega) (by omega)]; exact ho) (fun b hb => ?_) (fun b hb => ?_) (Nat.le_refl _)
    · rw [up_e, if_neg (by omega)]
    · rw [up_e, if_neg (by omega)]
  refine ⟨ok_drp h1 hi, ?_, fun a ha => RSs_c (h3 a ha) (drp_n (by omega) (by omega) (by omega)) ?_ ?_ ?_ ?_, fun a ha => RLk_c (h4 a ha) (drp_n (by omega) (by omega) (by omega)) ?_ ?_ ?_ ?_ ?_ ?_ ?_, fun a ha => ?_⟩
  · unfold RB
    rw [drp_n (by omega) (by omega) (by omega), up_n (by omega)]
    exact h2
  any_goals (rw [up_n (by omega)])
  by_cases e : a = i
  · subst e
    cases hp : pl (M (17 + a)) (nI s) (rn M a) 0 with
    | none =>
      have hw := rr_out hr.1 hs hp
      rw [drp_0 hp]
      refine RRw_c hr rfl rfl rfl rfl (fun _ _ ho => ho) (fun b hb => ?_) (fun b hb => ?_) (Nat.le_refl _)
      · rw [up_e]
        by_cases e : b = s
        · subst e
          rw [if_pos ⟨rfl, rfl⟩]
          exact hw.symm
        · rw [if_neg (by omega)]
      · rw [up_e, if_neg (by omega)]
    | some p =>
      obtain ⟨d1, d2, d3⟩ := drp_s h1 hi hp
      unfold RRw
      rw [d1]
      refine ⟨?_, fun e9 => by rw [drp_n (by omega) (by omega) (by omega)] at e9; have := hr.2 e9; omega⟩
      refine rr_congr (rr_drop hn hr.1 hs hp d2 d3 (w' := fun o => if o = s then 0 else wsh N a o) (fun o _ => rfl)) (fun _ _ => rfl) (fun _ _ => rfl) (fun b hb ho => ?_) (fun b hb => ?_) (fun b hb => ?_) (Nat.le_refl _)
      · show drp M a (nI s) (3 + b) 0 ≠ 0
        rw [drp_n (by omega) (by omega) (by omega)]
        exact ho
      · unfold wsh
        rw [up_e]
        by_cases e : b = s
        · subst e; rw [if_pos ⟨rfl, rfl⟩, if_pos rfl]
        · rw [if_neg (by omega), if_neg e]
      · rw [up_n (by omega)]
  · exact oth a ha e
