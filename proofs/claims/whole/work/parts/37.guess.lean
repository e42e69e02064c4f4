/-! ===== guesses, ask, count ===== -/
theorem gu_s : ∀ g : Fin 288, guS (nI g.val) = gmS (nI g.val) := by decide +kernel
theorem q_guAt {n N : Nat} {h : HaS} {m : MdS} (r : rQ n N h m) {g : Nat} (hg : g < 288) (t : Int32) : guAt h (nI g) t = dGa m (nI g) t := by
  unfold guAt dGa dBy
  rw [q_reach r, gu_s ⟨g, hg⟩]
  rfl
theorem q_fit {n N k : Nat} {h : HaS} {m : MdS} {u : HeS} (r : rQ n N h m) (hu : ∀ i, i < k → u.ats i = m.heard (3 * i) ∧ u.beh i = m.heard (3 * i + 1) ∧ u.the i = m.heard (3 * i + 2)) {g : Nat} (hg : g < 288) : guFit h u k (nI g) = dFit m k (nI g) := by
  unfold guFit dFit
  refine aO_cong (fun i hi => ?_)
  obtain ⟨a, b, c⟩ := hu i hi
  rw [q_guAt r hg, a, b, c]
theorem q_guesses {n N k : Nat} {h : HaS} {m : MdS} {u : HeS} (r : rQ n N h m) (hu : ∀ i, i < k → u.ats i = m.heard (3 * i) ∧ u.beh i = m.heard (3 * i + 1) ∧ u.the i = m.heard (3 * i + 2)) (what : Int32) : xGuR h u k N what = yGuR m k N what := by
  have h24 : N ≤ 24 := r.2.2.2.2.1
  have e1 : cntOf (fun g => guFit h u k (nI g)) (N * 12) = cF (fun g => dFit m k (nI g)) (12 * N - 0) 0 := by
    rw [Nat.sub_zero, cF_cnt, Nat.mul_comm]
    exact cO_cong (fun g hg => q_fit r hu (by omega))
  have e2 : guN (firstF (fun g => guFit h u k (nI g)) (N * 12) 0) = guM (firstF (fun g => dFit m k (nI g)) (12 * N - 0) 0) := by
    rw [Nat.sub_zero, Nat.mul_comm, fF_cong (p := fun g => dFit m k (nI g)) (fun g _ hg => q_fit r hu (by omega))]
    cases hF : firstF (fun g => dFit m k (nI g)) (12 * N) 0 with
    | none => rfl
    | some g =>
      have := fF_bd hF
      show 100 * guP (nI g) + 10 * guS (nI g) + guW (nI g) = 100 * (nI g / 12) + 10 * gmS (nI g) + (nI g - nI g / 2 * 2)
      rw [show guS (nI g) = gmS (nI g) from gu_s ⟨g, by omega⟩]
      rfl
  unfold xGuR yGuR
  rw [e1, e2]
  by_cases w0 : what = 0
  · rw [if_pos w0, if_pos (by rw [w0]; decide), if_pos w0]
  · rw [if_neg w0]
    by_cases w1 : what = 1
    · rw [if_pos w1, if_pos (by rw [w1]; decide), if_neg w0]
    · rw [if_neg w1, if_neg]
      intro hw
      rcases im_cases hw with q | q
      · exact w0 q
      · exact w1 q
theorem wIn_pl {N : Nat} {x : Int32} (h24 : N ≤ 24) (h : 0 ≤ x.toInt ∧ x.toInt < N) : wIn x 0 23 = true ∧ ∃ p : Nat, p < N ∧ x = nI p := by
  refine ⟨(wIn_iff _ _ _).mpr (by rw [pn_0, show (23 : Int32).toInt = 23 by decide]; omega), ?_⟩
  obtain ⟨j, hj, rfl⟩ := nI_of (x := x) (by rw [pn_lt, pn_0]; omega)
  rw [nI_toInt hj] at h
  exact ⟨j, by omega, rfl⟩
theorem q_sort {n N k : Nat} {h : HaS} {m : MdS} {u : HeS} (r : rQ n N h m) (hu : ∀ i, i < k → u.ats i = m.heard (3 * i) ∧ u.beh i = m.heard (3 * i + 1) ∧ u.the i = m.heard (3 * i + 2)) (nn : Int32) (ga : Nat → Int32) : ∀ i, i ≤ 288 → ∀ p, p < N → sgF h u k nn ga i p = nI (cntOf (fun g => dFit m k (nI g) && decide (dGa m (nI g) nn = nI p)) i)
  | 0, _, p, hp => by
    have h24 : N ≤ 24 := r.2.2.2.2.1
    rw [sgF, lsF_in (by omega), cntOf]
    rfl
  | i + 1, hi, p, hp => by
    have h24 : N ≤ 24 := r.2.2.2.2.1
    have ih := q_sort r hu nn ga i (by omega)
    rw [sgF, cntOf, q_fit r hu (by omega)]
    cases c : dFit m k (nI i)
    · rw [if_neg (by decide), ih p hp, Bool.false_and, if_neg (by decide)]
    · rw [if_pos rfl]
      have hR : 0 ≤ (guAt h (nI i) nn).toInt ∧ (guAt h (nI i) nn).toInt < N := q_reachR r _ _ _
      obtain ⟨w1, q, hq, eq⟩ := wIn_pl h24 hR
      rw [if_pos w1]
      have eg := q_guAt r (g := i) (by omega) nn
      rw [eq] at eg
      rw [eq, nI_clamp (by omega), ← eg, Bool.true_and]
      by_cases e : p = q
      · subst e
        rw [pk_us, ih p hp, decide_eq_true rfl, if_pos rfl, nI_1]
      · rw [pk_un e, ih p hp, decide_eq_false (fun z => e ((nI_eq (by omega) (by omega)).mp z).symm), if_neg (by decide)]
theorem q_ask {n N k : Nat} {h : HaS} {m : MdS} {u : HeS} (r : rQ n N h m) (hu : ∀ i, i < k → u.ats i = m.heard (3 * i) ∧ u.beh i = m.heard (3 * i + 1) ∧ u.the i = m.heard (3 * i + 2)) (nn : Int32) (ga : Nat → Int32) : xAsR h u k N nn ga = yAsR m k N nn := by
  have h24 : N ≤ 24 := r.2.2.2.2.1
  unfold xAsR yAsR
  by_cases c : wIn nn 0 99 = true
  · rw [if_pos c, if_pos c]
    have e1 : nI (cntOf (fun g => guFit h u k (nI g) && wIn (guAt h (nI g) nn) 0 23) (N * 12)) = yGuR m k N 0 := by
      unfold yGuR
      rw [if_pos (by decide), if_pos rfl, Nat.sub_zero, cF_cnt, Nat.mul_comm]
      refine congrArg nI (cO_cong (fun g hg => ?_))
      have hR : 0 ≤ (guAt h (nI g) nn).toInt ∧ (guAt h (nI g) nn).toInt < N := q_reachR r _ _ _
      rw [(wIn_pl h24 hR).1, Bool.and_true]
      exact q_fit r hu (by omega)
    rw [e1]
    have hall : ∃ C : Nat, C ≤ 288 ∧ yGuR m k N 0 = nI C := by
      unfold yGuR
      rw [if_pos (by decide), if_pos rfl, Nat.sub_zero, cF_cnt]
      exact ⟨_, Nat.le_trans (cO_le _ _) (by omega), rfl⟩
    obtain ⟨C, hC, eC⟩ := hall
    rw [eC]
    have key : ∀ p, p ≤ N → asL (sgF h u k nn ga (N * 12)) (nI C) p = amL m k N nn (nI C) p := by
      intro p
      induction p with
      | zero => exact fun _ => rfl
      | succ p ih =>
        intro hp
        rw [asL, amL, ih (by omega), q_sort r hu nn ga (N * 12) (by omega) p (by omega)]
        have et : cntOf (fun g => dFit m k (nI g) && decide (dGa m (nI g) nn = nI p)) (N * 12) = amT m k N nn p := by
          unfold amT
          rw [Nat.mul_comm]
        rw [et]
        have hT : amT m k N nn p ≤ 288 := Nat.le_trans (cO_le _ _) (by omega)
        generalize amT m k N nn p = T at *
        have hs : (nI C - nI T).toInt = (C : Int) - T := pk_sub_toInt (by omega) (by omega)
        have ht : (nI T).toInt = T := nI_toInt (by omega)
        by_cases c1 : nI T < nI C - nI T
        · have c2 : ¬ nI C - nI T < nI T := by
            rw [pn_lt] at c1 ⊢
            omega
          rw [if_pos c1, if_neg c2]
        · by_cases c2 : nI C - nI T < nI T
          · rw [if_neg c1, if_pos c2]
          · have ee : nI C - nI T = nI T := by
              rw [pn_eq]
              rw [pn_lt] at c1 c2
              omega
            rw [if_neg c1, if_neg c2, ee]
    rw [key N (Nat.le_refl _)]
  · rw [if_neg c, if_neg c]
