/-! LOCKS -/
theorem Rel_lock {M N M' N' : Mem} {n i : Nat} (h : Rel M N n) (hi : i < 4) (hM : ∀ k, k ≠ 9 + i → M' k = M k) (hN : ∀ k r, ¬ (r = i ∧ (5 ≤ k ∧ k ≤ 9 ∨ k = 12 ∨ k = 13)) → N' k r = N k r) (hL : RLk M' N' i) (hf : M' (9 + i) 1 = -1 → rn M i = 0) : Rel M' N' n := by
  obtain ⟨h1, h2, h3, h4, h5⟩ := h
  have hr : ∀ a, a < 4 → rn M' a = rn M a := fun a ha => by unfold rn; rw [hM _ (by omega)]
  refine ⟨fun a ha => ?_, ?_, fun a ha => RSs_c (h3 a ha) (hM _ (by omega)) (hN _ _ (by omega)) (hN _ _ (by omega)) (hN _ _ (by omega)) (hN _ _ (by omega)), fun a ha => ?_, fun a ha => ?_⟩
  · rw [hr a ha, hM _ (by omega)]
    exact h1 a ha
  · unfold RB
    rw [hN 0 2 (by omega), hN 0 0 (by omega), hM 0 (by omega)]
    exact h2
  · by_cases e : a = i
    · subst e; exact hL
    · exact RLk_c (h4 a ha) (hM _ (by omega)) (hN _ _ (by omega)) (hN _ _ (by omega)) (hN _ _ (by omega)) (hN _ _ (by omega)) (hN _ _ (by omega)) (hN _ _ (by omega)) (hN _ _ (by omega))
  · have q := h5 a ha
    refine ⟨?_, ?_⟩
    · rw [hr a ha, hM (17 + a) (by omega), hM (21 + a) (by omega)]
      exact rr_congr q.1 (fun _ _ => rfl) (fun _ _ => rfl) (fun s hs ho => by show M' (3 + s) 0 ≠ 0; rw [hM _ (by omega)]; exact ho) (fun s hs => hN _ _ (by omega)) (fun s hs => hN _ _ (by omega)) (Nat.le_refl _)
    · rw [hr a ha]
      by_cases e : a = i
      · subst e; exact hf
      · rw [hM _ (by omega)]; exact q.2
theorem ln_k (M : Mem) (i : Nat) (x t now c : Int32) : lnM M i x t now c (9 + i) 1 = x ∧ lnM M i x t now c (9 + i) 2 = M (9 + i) 2 + 1 ∧ lnM M i x t now c (9 + i) 3 = now + t ∧ lnM M i x t now c (9 + i) 4 = t ∧ lnM M i x t now c (9 + i) 5 = c ∧ lnM M i x t now c (9 + i) 6 = M (9 + i) 6 ∧ lnM M i x t now c (9 + i) 7 = M (9 + i) 7 := by
  unfold lnM rfM
  simp [up_e]
theorem ml_k (N : Mem) (i s : Nat) (t : Int32) : mlM N i s t 5 i = nI s + 1 ∧ mlM N i s t 6 i = N 6 i + 1 ∧ mlM N i s t 7 i = N 0 0 + t ∧ mlM N i s t 8 i = t ∧ mlM N i s t 9 i = N 4 s ∧ mlM N i s t 12 i = N 12 i ∧ mlM N i s t 13 i = N 13 i := by
  unfold mlM
  simp [up_e]
theorem ml_n {N : Mem} {i s k r : Nat} {t : Int32} (h1 : ¬ (r = i ∧ (5 ≤ k ∧ k ≤ 9))) (h2 : ¬ (k = 10 ∧ r = i * 6 + s)) : mlM N i s t k r = N k r := by
  unfold mlM
  simp only [up_e]
  rw [if_neg h2, if_neg (by omega), if_neg (by omega), if_neg (by omega), if_neg (by omega), if_neg (by omega)]
theorem nIs_ne {s : Nat} (hs : s < 6) : nI s ≠ -1 := nI_ne (by omega)
/-- a free lock is lent -/
theorem Rel_lend {M N : Mem} {n i s : Nat} {t : Int32} (hn : n < 2 ^ 31) (h : Rel M N n) (hi : i < 4) (hs : s < 6) (hf : M (9 + i) 1 = -1) : Rel (lnM M i (nI s) t (M 0 2) (M (3 + s) 3)) (mlM N i s t) n := by
  have hh := h
  obtain ⟨h1, h2, h3, h4, h5⟩ := h
  obtain ⟨a1, a2, a3, a4, a5, a6, a7⟩ := ln_k M i (nI s) t (M 0 2) (M (3 + s) 3)
  obtain ⟨b1, b2, b3, b4, b5, b6, b7⟩ := ml_k N i s t
  obtain ⟨q1, q2, q3, q4, q5, q6, q7, q8⟩ := h4 i hi
  have hr := h5 i hi
  have hw : N 10 (i * 6 + s) = 0 := by
    obtain ⟨σ, ω, r1, r2, r3⟩ := hr.1
    rcases r3 s hs with e | ⟨k, hk, -⟩
    · exact e
    · rw [hr.2 hf] at hk; omega
  refine Rel_lock hh hi (fun k hk => ln_n hk) (fun k r hk => ?_) ?_ (fun e => by rw [a1] at e; exact absurd e (nIs_ne hs))
  · by_cases e : k = 10 ∧ r = i * 6 + s
    · obtain ⟨rfl, rfl⟩ := e
      rw [hw]
      unfold mlM
      simp [up_e]
    · exact ml_n (by omega) e
  · unfold RLk
    rw [a1, a2, a3, a4, a5, a6, a7, b1, b2, b3, b4, b5, b6, b7, q3, h2.2, (h3 s hs).2.2.2]
    exact ⟨rfl, Or.inr ⟨s, hs, rfl⟩, rfl, rfl, rfl, rfl, q7, q8⟩
/-- passed on -/
theorem Rel_ps {M N : Mem} {n i : Nat} (hn : n < 2 ^ 31) (h : Rel M N n) (hi : i < 4) : Rel (psM M i) (ovM N i) n := by
  have hh := h
  obtain ⟨h1, h2, h3, h4, h5⟩ := h
  obtain ⟨q1, q2, q3, q4, q5, q6, q7, q8⟩ := h4 i hi
  have hr := h5 i hi
  have hr6 := (h1 i hi).1
  have er : rn (up M (9 + i) 1 (-1)) i = rn M i := rn_up (by omega)
  have e17 : up M (9 + i) 1 (-1) (17 + i) = M (17 + i) := up_n (by omega)
  have e21 : up M (9 + i) 1 (-1) (21 + i) = M (21 + i) := up_n (by omega)
  have ew : wsh (up N 5 i 0) i = wsh N i := by funext o; unfold wsh; rw [up_n (by omega)]
  have hc1 : RLk (up M (9 + i) 1 (-1)) (up N 5 i 0) i := by
    unfold RLk
    simp only [up_e]
    simp [q3, q4, q5, q6, q7, q8]
  rcases Nat.eq_zero_or_pos (rn M i) with e0 | e0
  · have hd : dN 0 (rn M i) = none := by rw [e0]; decide
    have ex : slA (up M (9 + i) 1 (-1)) i 0 = -1 := by unfold slA; rw [er, hd]
    have ey : inV (up N 5 i 0) i 0 = -1 := by unfold inV; rw [ew]; exact rr_none hn hr6 hr.1 hd
    have em : psM M i = up M (9 + i) 1 (-1) := by simp only [psM, if_pos ex]
    have eo : ovM N i = up N 5 i 0 := by
      unfold ovM
      rw [ey]
      rfl
    rw [em, eo]
    refine Rel_lock hh hi (fun k hk => up_n hk) (fun k r hk => ?_) hc1 (fun _ => e0)
    rw [up_e, if_neg (by omega)]
  · have hd : dN 0 (rn M i) = some 0 := dN_nI (j := 0) (by omega) e0
    obtain ⟨σ, ω, r1, r2, r3⟩ := id hr.1
    obtain ⟨s1, s2, s3, s4, s5, s6, s7⟩ := r1 0 e0
    generalize hs : σ 0 = s at *
    have ex : slA (up M (9 + i) 1 (-1)) i 0 = nI s := by unfold slA; rw [er, hd, e17]; exact s2
    have et : tmA (up M (9 + i) 1 (-1)) i 0 = N 11 (i * 6 + s) := by unfold tmA; rw [er, hd, e21]; exact s4
    have ey : inV (up N 5 i 0) i 0 = nI s := by
      unfold inV
      rw [ew, show (0 : Int32) = nI 0 from rfl, rr_at hn hr.1 e0]
      exact s2
    have eo : ovM N i = mlM (up N 5 i 0) i s (N 11 (i * 6 + s)) := by
      unfold ovM
      rw [ey, dN_nI (by decide) s1]
      dsimp only
      rw [up_n (by omega)]
    have hp : pl (M (17 + i)) (nI s) (rn M i) 0 = some 0 := by
      obtain ⟨k, hk⟩ : ∃ k, rn M i = k + 1 := ⟨rn M i - 1, by omega⟩
      rw [hk]
      unfold pl
      rw [if_pos s2]
    have hp1 : pl (up M (9 + i) 1 (-1) (17 + i)) (nI s) (rn (up M (9 + i) 1 (-1)) i) 0 = some 0 := by rw [er, e17]; exact hp
    obtain ⟨d1, d2, d3⟩ := drp_s (ok_up (k := 9 + i) (r := 1) (v := -1) h1 (by omega)) hi hp1
    rw [er] at d1 d2 d3
    rw [e17] at d2
    rw [e21] at d3
    have dn : ∀ k, k ≠ 9 + i → k ≠ 13 + i → k ≠ 17 + i → k ≠ 21 + i → drp (up M (9 + i) 1 (-1)) i (nI s) k = M k := fun k a b c d => by rw [drp_n b c d, up_n a]
    have ec : clkV (drp (up M (9 + i) 1 (-1)) i (nI s)) (nI s) = N 4 s := by
      unfold clkV osV
      rw [dN_nI (by decide) s1]
      dsimp only
      rw [dn (3 + s) (by omega) (by omega) (by omega) (by omega), if_neg s3]
      show drp (up M (9 + i) 1 (-1)) i (nI s) (3 + s) 3 = N 4 s
      rw [dn (3 + s) (by omega) (by omega) (by omega) (by omega)]
      exact (h3 s s1).2.2.2
    have em : psM M i = lnM (drp (up M (9 + i) 1 (-1)) i (nI s)) i (nI s) (N 11 (i * 6 + s)) (N 0 0) (N 4 s) := by
      simp only [psM, ex, if_neg (nIs_ne s1), et, ec]
      rw [dn 0 (by omega) (by omega) (by omega) (by omega), h2.2]
    have okp := ok_ps h1 hi
    rw [em] at okp
    rw [em, eo]
    obtain ⟨a1, a2, a3, a4, a5, a6, a7⟩ := ln_k (drp (up M (9 + i) 1 (-1)) i (nI s)) i (nI s) (N 11 (i * 6 + s)) (N 0 0) (N 4 s)
    obtain ⟨b1, b2, b3, b4, b5, b6, b7⟩ := ml_k (up N 5 i 0) i s (N 11 (i * 6 + s))
    have hN : ∀ k r, ¬ (r = i ∧ (5 ≤ k ∧ k ≤ 9)) → ¬ (k = 10 ∧ r = i * 6 + s) → mlM (up N 5 i 0) i s (N 11 (i * 6 + s)) k r = N k r := fun k r x1 x2 => by
      rw [ml_n x1 x2, up_e, if_neg (by omega)]
    have hM : ∀ k, k ≠ 9 + i → k ≠ 13 + i → k ≠ 17 + i → k ≠ 21 + i → lnM (drp (up M (9 + i) 1 (-1)) i (nI s)) i (nI s) (N 11 (i * 6 + s)) (N 0 0) (N 4 s) k = M k := fun k x1 x2 x3 x4 => by rw [ln_n x1, dn k x1 x2 x3 x4]
    have d9 : drp (up M (9 + i) 1 (-1)) i (nI s) (9 + i) = up M (9 + i) 1 (-1) (9 + i) := drp_n (by omega) (by omega) (by omega)
    refine ⟨okp, ?_, fun j hj => RSs_c (h3 j hj) (hM _ (by omega) (by omega) (by omega) (by omega)) (hN _ _ (by omega) (by omega)) (hN _ _ (by omega) (by omega)) (hN _ _ (by omega) (by omega)) (hN _ _ (by omega) (by omega)), fun a ha => ?_, fun a ha => ?_⟩
    · unfold RB
      rw [hN 0 2 (by omega) (by omega), hN 0 0 (by omega) (by omega), hM 0 (by omega) (by omega) (by omega) (by omega)]
      exact h2
    · by_cases e : a = i
      · subst e
        unfold RLk
        rw [a1, a2, a3, a4, a5, a6, a7, b1, b2, b3, b4, b5, b6, b7, d9]
        simp only [up_e]
        simp [q3, q7, q8]
        exact Or.inr ⟨s, s1, rfl⟩
      · exact RLk_c (h4 a ha) (hM _ (by omega) (by omega) (by omega) (by omega)) (hN _ _ (by omega) (by omega)) (hN _ _ (by omega) (by omega)) (hN _ _ (by omega) (by omega)) (hN _ _ (by omega) (by omega)) (hN _ _ (by omega) (by omega)) (hN _ _ (by omega) (by omega)) (hN _ _ (by omega) (by omega))
    · by_cases e : a = i
      · subst e
        unfold RRw
        have ern : rn (lnM (drp (up M (9 + a) 1 (-1)) a (nI s)) a (nI s) (N 11 (a * 6 + s)) (N 0 0) (N 4 s)) a = rn M a - 1 := by
          rw [← d1]
          unfold rn
          rw [ln_n (by omega)]
        rw [ern, ln_n (by omega), ln_n (by omega), a1]
        refine ⟨?_, fun e9 => absurd e9 (nIs_ne s1)⟩
        refine rr_congr (rr_drop hn hr.1 s1 hp d2 d3 (w' := fun o => if o = s then 0 else wsh N a o) (fun o _ => rfl)) (fun _ _ => rfl) (fun _ _ => rfl) (fun b hb ho => ?_) (fun b hb => ?_) (fun b hb => ?_) (Nat.le_refl _)
        · show lnM _ _ _ _ _ _ (3 + b) 0 ≠ 0
          rw [hM _ (by omega) (by omega) (by omega) (by omega)]
          exact ho
        · unfold wsh
          by_cases e : b = s
          · subst e
            rw [if_pos rfl]
            unfold mlM
            simp [up_e]
          · rw [if_neg e, hN _ _ (by omega) (by omega)]
        · exact hN _ _ (by omega) (by omega)
      · refine RRw_c (h5 a ha) (hM _ (by omega) (by omega) (by omega) (by omega)) (hM _ (by omega) (by omega) (by omega) (by omega)) (hM _ (by omega) (by omega) (by omega) (by omega)) (by rw [hM _ (by omega) (by omega) (by omega) (by omega)]) (fun b hb ho => by rw [hM _ (by omega) (by omega) (by omega) (by omega)]; exact ho) (fun b hb => hN _ _ (by omega) (by omega)) (fun b hb => hN _ _ (by omega) (by omega)) (Nat.le_refl _)
/-- asked for -/
theorem Rel_ask {M N : Mem} {n i s : Nat} {t : Int32} (hn : n + 1 < 2 ^ 31) (h : Rel M N n) (hi : i < 4) (hs : s < 6) (ho : M (3 + s) 0 ≠ 0) (hf : M (9 + i) 1 ≠ -1) : ∃ n', n ≤ n' ∧ n' ≤ n + 1 ∧ Rel (askM M i (nI s) t) (maW N s i t) n' := by
  have hok' := ok_ask (x := nI s) (t := t) h.1 hi
  obtain ⟨h1, h2, h3, h4, h5⟩ := h
  have hr := h5 i hi
  have hr6 := (h1 i hi).1
  cases hp : pl (M (17 + i)) (nI s) (rn M i) 0 with
  | none =>
    have hw : N 10 (i * 6 + s) = 0 := rr_out hr.1 hs hp
    have hlt := rr_room (by omega) hr.1 hs hp
    have ea : askM M i (nI s) t = up (up (up M (17 + i) (rn M i) (nI s)) (21 + i) (rn M i) t) (13 + i) 2 (nI (rn M i + 1)) := by
      simp only [askM, hp]
      have hc : ¬ (6 : Int32) ≤ nI (rn M i) := show ¬ nI 6 ≤ nI (rn M i) from nI_ge hlt (by decide)
      rw [if_neg hc]
    have eb : maW N s i t = up (up (up N 0 2 (N 0 2 + 1)) 10 (i * 6 + s) (N 0 2 + 1)) 11 (i * 6 + s) t := by
      simp only [maW, if_pos hw, up_s]
    have hN : ∀ k r, ¬ (k = 0 ∧ r = 2) → ¬ (k = 10 ∧ r = i * 6 + s) → ¬ (k = 11 ∧ r = i * 6 + s) → maW N s i t k r = N k r := fun k r x1 x2 x3 => by
      rw [eb, up_e, if_neg x3, up_e, if_neg x2, up_e, if_neg x1]
    have hM : ∀ k, k ≠ 13 + i → k ≠ 17 + i → k ≠ 21 + i → askM M i (nI s) t k = M k := fun k x1 x2 x3 => ask_n x1 x2 x3
    refine ⟨n + 1, by omega, Nat.le_refl _, hok', ?_, fun j hj => RSs_c (h3 j hj) (hM _ (by omega) (by omega) (by omega)) (hN _ _ (by omega) (by omega) (by omega)) (hN _ _ (by omega) (by omega) (by omega)) (hN _ _ (by omega) (by omega) (by omega)) (hN _ _ (by omega) (by omega) (by omega)), fun a ha => RLk_c (h4 a ha) (hM _ (by omega) (by omega) (by omega)) (hN _ _ (by omega) (by omega) (by omega)) (hN _ _ (by omega) (by omega) (by omega)) (hN _ _ (by omega) (by omega) (by omega)) (hN _ _ (by omega) (by omega) (by omega)) (hN _ _ (by omega) (by omega) (by omega)) (hN _ _ (by omega) (by omega) (by omega)) (hN _ _ (by omega) (by omega) (by omega)), fun a ha => ?_⟩
    · unfold RB
      rw [hM 0 (by omega) (by omega) (by omega), hN 0 0 (by omega) (by omega) (by omega)]
      refine ⟨?_, h2.2⟩
      rw [eb]
      simp only [up_e]
      simp [h2.1, nI_1]
    · by_cases e : a = i
      · subst e
        unfold RRw
        have ern : rn (askM M a (nI s) t) a = rn M a + 1 := by
          unfold rn
          rw [ea, up_s, nI_clamp (by show rn M a + 1 < 2 ^ 31; omega)]
          rfl
        rw [ern, hM (9 + a) (by omega) (by omega) (by omega)]
        refine ⟨?_, fun e9 => absurd e9 hf⟩
        have e17 : ∀ k, askM M a (nI s) t (17 + a) k = if k = rn M a then nI s else M (17 + a) k := fun k => by
          rw [ea, up_n (by omega), up_n (by omega), up_e]
          by_cases e : k = rn M a
          · rw [if_pos ⟨rfl, e⟩, if_pos e]
          · rw [if_neg (fun z => e z.2), if_neg e]
        have e21 : ∀ k, askM M a (nI s) t (21 + a) k = if k = rn M a then t else M (21 + a) k := fun k => by
          rw [ea, up_n (by omega), up_e]
          by_cases e : k = rn M a
          · rw [if_pos ⟨rfl, e⟩, if_pos e]
          · rw [if_neg (fun z => e z.2), if_neg e, up_n (by omega)]
        refine rr_congr (rr_push (v := t) (sl' := askM M a (nI s) t (17 + a)) (tm' := askM M a (nI s) t (21 + a)) (w' := fun o => if o = s then nI (n + 1) else wsh N a o) (t' := fun o => if o = s then t else N 11 (a * 6 + o)) hn hr.1 hs ho hp (fun k hk => by rw [e17, if_neg (by omega)]) (by rw [e17, if_pos rfl]) (fun k hk => by rw [e21, if_neg (by omega)]) (by rw [e21, if_pos rfl]) (fun o _ => rfl) (fun o _ => rfl)) (fun _ _ => rfl) (fun _ _ => rfl) (fun b hb hob => ?_) (fun b hb => ?_) (fun b hb => ?_) (Nat.le_refl _)
        · show askM M a (nI s) t (3 + b) 0 ≠ 0
          rw [hM _ (by omega) (by omega) (by omega)]
          exact hob
        · show maW N s a t 10 (a * 6 + b) = _
          by_cases e : b = s
          · subst e
            rw [if_pos rfl, eb, up_n (by omega), up_s, h2.1, nI_1]
          · rw [if_neg e, hN _ _ (by omega) (by omega) (by omega)]
            rfl
        · by_cases e : b = s
          · subst e
            rw [if_pos rfl, eb, up_s]
          · rw [if_neg e, hN _ _ (by omega) (by omega) (by omega)]
      · exact RRw_c (h5 a ha) (hM _ (by omega) (by omega) (by omega)) (hM _ (by omega) (by omega) (by omega)) (hM _ (by omega) (by omega) (by omega)) (by rw [hM _ (by omega) (by omega) (by omega)]) (fun b hb hob => by rw [hM _ (by omega) (by omega) (by omega)]; exact hob) (fun b hb => hN _ _ (by omega) (by omega) (by omega)) (fun b hb => hN _ _ (by omega) (by omega) (by omega)) (by omega)
  | some p =>
    have hw : N 10 (i * 6 + s) ≠ 0 := (rr_in (by omega) hr.1 hs hp).1
    have ea : askM M i (nI s) t = up M (21 + i) p t := by simp only [askM, hp]
    have eb : maW N s i t = up N 11 (i * 6 + s) t := by simp only [maW, if_neg hw]
    rw [ea, eb]
    rw [ea] at hok'
    refine ⟨n, Nat.le_refl _, by omega, hok', ?_, fun j hj => RSs_c (h3 j hj) (up_n (by omega)) (by rw [up_n (by omega)]) (by rw [up_n (by omega)]) (by rw [up_n (by omega)]) (by rw [up_n (by omega)]), fun a ha => RLk_c (h4 a ha) (up_n (by omega)) (by rw [up_n (by omega)]) (by rw [up_n (by omega)]) (by rw [up_n (by omega)]) (by rw [up_n (by omega)]) (by rw [up_n (by omega)]) (by rw [up_n (by omega)]) (by rw [up_n (by omega)]), fun a ha => ?_⟩
    · unfold RB
      rw [up_n (by omega), up_n (by omega)]
      exact h2
    · by_cases e : a = i
      · subst e
        unfold RRw
        rw [rn_up (by omega), up_n (k' := 17 + a) (by omega), up_n (k' := 9 + a) (by omega)]
        refine ⟨?_, hr.2⟩
        refine rr_congr (rr_term (v := t) (tm' := up M (21 + a) p t (21 + a)) (t' := fun o => if o = s then t else N 11 (a * 6 + o)) (by omega) hr.1 hs hp (fun k hk => ?_) (fun o _ => rfl)) (fun _ _ => rfl) (fun _ _ => rfl) (fun b hb hob => ?_) (fun b hb => ?_) (fun b hb => ?_) (Nat.le_refl _)
        · rw [up_e]
          by_cases e : k = p
          · rw [if_pos ⟨rfl, e⟩, if_pos e]
          · rw [if_neg (fun z => e z.2), if_neg e]
        · show up M (21 + a) p t (3 + b) 0 ≠ 0
          rw [up_n (by omega)]
          exact hob
        · unfold wsh
          rw [up_n (by omega)]
        · rw [up_e]
          by_cases e : b = s
          · subst e; rw [if_pos ⟨rfl, rfl⟩, if_pos rfl]
          · rw [if_neg (by omega), if_neg e]
      · exact RRw_c (h5 a ha) (up_n (by omega)) (up_n (by omega)) (up_n (by omega)) (by rw [up_n (by omega)]) (fun b hb hob => by rw [up_n (by omega)]; exact hob) (fun b hb => by rw [up_n (by omega)]) (fun b hb => by rw [up_e, if_neg (by omega)]) (Nat.le_refl _)
