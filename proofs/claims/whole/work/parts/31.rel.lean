/-! ===== the relation between the class's cells and the model's ===== -/
/-- a moment of n sayings, and a row of 50 numbers -/
def rMo (n : Nat) (m : MoS) (f : Nat → Int32) : Prop :=
  n ≤ 8 ∧ m.tick = f 0 ∧ m.sayings = f 1 ∧ m.sayings = nI n ∧ 0 ≤ m.tick.toInt ∧ m.tick.toInt ≤ 9999 ∧
  (∀ s, s < n → m.frm s = f (2 + s) ∧ m.speed s = f (10 + s) ∧ m.way s = f (18 + s) ∧ m.loud s = f (26 + s) ∧ m.said s = f (34 + s) ∧ bt m.hushed s = decide (f (42 + s) = 1)) ∧
  (∀ s, s < n → (f (42 + s) = 0 ∨ f (42 + s) = 1) ∧ 1 ≤ (m.speed s).toInt ∧ (m.speed s).toInt ≤ 6 ∧ 1 ≤ (m.loud s).toInt ∧ (m.loud s).toInt ≤ 30 ∧ 0 ≤ (m.said s).toInt ∧ (m.said s).toInt ≤ m.tick.toInt) ∧
  (∀ s, n ≤ s → s < 8 → bt m.hushed s = false)
/-- a hall and the model, as far as questions go -/
def rQ (n N : Nat) (h : HaS) (m : MdS) : Prop :=
  h.pl = m.pl ∧ h.loss = m.loss ∧ h.nich = m.nich ∧ 4 ≤ N ∧ N ≤ 24 ∧ m.pl = nI N ∧ 1 ≤ m.loss.toInt ∧ m.loss.toInt ≤ 9 ∧ rMo n h.mo m.st
theorem rQ_pl {n N : Nat} {h : HaS} {m : MdS} (r : rQ n N h m) : 0 < m.pl.toInt ∧ m.pl.toInt ≤ 24 ∧ m.pl.toInt = N ∧ 0 < m.pl ∧ ¬ m.pl = 0 := by
  obtain ⟨-, -, -, h4, h24, hN, -, -, -⟩ := r
  have e : m.pl.toInt = N := by rw [hN]; exact nI_toInt (by omega)
  refine ⟨by omega, by omega, e, ?_, ?_⟩
  · rw [pn_lt, pn_0]
    omega
  · intro q
    rw [q, pn_0] at e
    omega
theorem q_reach {n N : Nat} {h : HaS} {m : MdS} (r : rQ n N h m) (p wa g : Int32) : hReach h p wa g = dRo m (if wa = 0 then p + g else p - g) := by
  obtain ⟨b1, b2, -, b3, -⟩ := rQ_pl r
  unfold hReach dRo
  rw [r.1, if_pos b3, pn_fm b1 b2]
theorem q_reachR {n N : Nat} {h : HaS} {m : MdS} (r : rQ n N h m) (p wa g : Int32) : 0 ≤ (hReach h p wa g).toInt ∧ (hReach h p wa g).toInt < N := by
  obtain ⟨b1, b2, b4, b3, -⟩ := rQ_pl r
  unfold hReach
  rw [r.1, if_pos b3, ← b4]
  exact pn_fmR b1 b2
theorem q_gone {n N : Nat} {h : HaS} {m : MdS} (r : rQ n N h m) {s : Nat} (hs : s < n) (k : Int32) : hGone h s k = m.st (10 + s) * dAgo m s k := by
  obtain ⟨-, -, -, -, -, -, -, -, -, ht, -, -, -, -, hf, -, -⟩ := r
  obtain ⟨f1, f2, f3, f4, f5, f6⟩ := hf s hs
  unfold hGone dAgo
  rw [f2, f5, ht]
theorem q_pl {n N : Nat} {h : HaS} {m : MdS} (r : rQ n N h m) {s : Nat} (hs : s < n) (k : Int32) : hPlace h s k = dPl m s k := by
  have e := q_gone r hs k
  have q := q_reach r (h.mo.frm s) (h.mo.way s) (hGone h s k)
  obtain ⟨-, -, -, -, -, -, -, -, -, ht, -, -, -, -, hf, -, -⟩ := r
  obtain ⟨f1, f2, f3, f4, f5, f6⟩ := hf s hs
  unfold hPlace dPl dBy
  rw [q, e, f1, f3]
theorem q_laps {n N : Nat} {h : HaS} {m : MdS} (r : rQ n N h m) {s : Nat} (hs : s < n) (k : Int32) : hLaps h (hGone h s k) = dLa m s k := by
  obtain ⟨b1, b2, b4, b3, -⟩ := rQ_pl r
  unfold hLaps dLa
  rw [q_gone r hs k, r.1, if_pos b3]
theorem q_left {n N : Nat} {h : HaS} {m : MdS} (r : rQ n N h m) (lo g : Int32) : hLeft h lo g = if 0 < lo - m.loss * (g / m.pl) then lo - m.loss * (g / m.pl) else 0 := by
  obtain ⟨b1, b2, b4, b3, -⟩ := rQ_pl r
  unfold hLeft hLaps
  rw [r.1, r.2.1, if_pos b3]
theorem q_st {n N : Nat} {h : HaS} {m : MdS} (r : rQ n N h m) {s : Nat} (hs : s < n) (k : Int32) : hStr h s k = dSt m s k := by
  have e := q_left r (h.mo.loud s) (hGone h s k)
  have e2 := q_gone r hs k
  obtain ⟨-, -, -, -, -, -, -, -, hn8, ht, -, -, -, -, hf, -, -⟩ := r
  obtain ⟨f1, f2, f3, f4, f5, f6⟩ := hf s hs
  unfold hStr dSt
  rw [hasB_bt _ (by omega), f6, e, e2, f4]
  show _ = if m.st (26 + s) - m.loss * (m.st (10 + s) * dAgo m s k / m.pl) < 0 then 0 else if m.st (42 + s) = 1 then 0 else m.st (26 + s) - m.loss * (m.st (10 + s) * dAgo m s k / m.pl)
  generalize m.st (26 + s) - m.loss * (m.st (10 + s) * dAgo m s k / m.pl) = v
  by_cases c : m.st (42 + s) = 1
  · rw [if_pos (by rw [decide_eq_true c]), if_pos c]
    split <;> rfl
  · rw [if_neg (by rw [decide_eq_false c]; decide), if_neg c]
    by_cases c1 : 0 < v
    · rw [if_pos c1, if_neg]
      rw [pn_lt] at c1 ⊢
      omega
    · rw [if_neg c1]
      by_cases c2 : v < 0
      · rw [if_pos c2]
      · rw [if_neg c2, pn_eq]
        rw [pn_lt] at c1 c2
        omega
/-- a strength is 0 or above it -/
theorem q_str0 (h : HaS) (s : Nat) (k : Int32) : hStr h s k = 0 ∨ 0 < hStr h s k := by
  unfold hStr hLeft
  split
  · exact Or.inl rfl
  · split
    · rename_i c
      exact Or.inr c
    · exact Or.inl rfl
/-- a strength is 30 at most -/
theorem q_strR {n N : Nat} {h : HaS} {m : MdS} (r : rQ n N h m) {s : Nat} (hs : s < n) {k : Int32} (hk0 : 0 ≤ k.toInt) (hk : k.toInt ≤ 1100) : 0 ≤ (hStr h s k).toInt ∧ (hStr h s k).toInt ≤ 30 := by
  have e := q_left r (h.mo.loud s) (hGone h s k)
  obtain ⟨b1, b2, b4, b3, -⟩ := rQ_pl r
  obtain ⟨-, -, -, -, -, -, l1, l2, hn8, ht, -, -, t0, t1, hf, hg, -⟩ := r
  obtain ⟨-, g1, g2, g3, g4, g5, g6⟩ := hg s hs
  unfold hStr
  split
  · rw [pn_0]
    omega
  · rw [e]
    have hA : (h.mo.tick + k).toInt = h.mo.tick.toInt + k.toInt := pn_add (by omega) (by omega)
    have hB : (h.mo.tick + k - h.mo.said s).toInt = h.mo.tick.toInt + k.toInt - (h.mo.said s).toInt := by
      rw [pn_sub (by rw [hA]; omega) (by rw [hA]; omega), hA]
    obtain ⟨a, ha⟩ : ∃ a : Int, a = h.mo.tick.toInt + k.toInt - (h.mo.said s).toInt := ⟨_, rfl⟩
    obtain ⟨v, hv⟩ : ∃ v : Int, v = (h.mo.speed s).toInt := ⟨_, rfl⟩
    have ha0 : 0 ≤ a ∧ a ≤ 11099 := by omega
    have hm0 : 0 ≤ v * a := Int.mul_nonneg (by omega) ha0.1
    have hm1 : v * a ≤ 6 * 11099 := Int.mul_le_mul (by omega) ha0.2 ha0.1 (by omega)
    have hC : (hGone h s k).toInt = v * a := by
      unfold hGone
      rw [pn_mul (by rw [hB, ← ha, ← hv]; omega) (by rw [hB, ← ha, ← hv]; omega), hB, ← ha, ← hv]
    obtain ⟨t, r0, ht0, hr0, er, c1, c2, p1, p2⟩ := pn_remB (v * a) b1
    have hD : (hGone h s k / m.pl).toInt = t := by rw [pn_div b1, hC, ht0]
    have ht1 : 0 ≤ t := by
      rw [← ht0]
      exact Int.tdiv_nonneg hm0 (Int.le_of_lt b1)
    have ht2 : t ≤ 6 * 11099 := by
      rw [← ht0, Int.tdiv_eq_ediv_of_nonneg hm0]
      exact Int.le_trans (Int.ediv_le_self _ hm0) hm1
    obtain ⟨w, hw⟩ : ∃ w : Int, w = m.loss.toInt := ⟨_, rfl⟩
    have hl0 : 0 ≤ w * t := Int.mul_nonneg (by omega) ht1
    have hl1 : w * t ≤ 9 * (6 * 11099) := Int.mul_le_mul (by omega) ht2 ht1 (by omega)
    have hE : (m.loss * (hGone h s k / m.pl)).toInt = w * t := by
      rw [pn_mul (by rw [hD, ← hw]; omega) (by rw [hD, ← hw]; omega), hD, ← hw]
    have hF : (h.mo.loud s - m.loss * (hGone h s k / m.pl)).toInt = (h.mo.loud s).toInt - w * t := by
      rw [pn_sub (by rw [hE]; omega) (by rw [hE]; omega), hE]
    split
    · rename_i c
      rw [pn_lt, hF, pn_0] at c
      rw [hF]
      omega
    · rw [pn_0]
      omega
/-! what is heard -/
theorem lsF_in {f g : Nat → Int32} {n s : Nat} (hs : s < n) : lsF f g n s = f s := by rw [lsF, if_pos hs]
theorem q_snd {n N : Nat} {h : HaS} {m : MdS} (r : rQ n N h m) (p k : Int32) : hSndB (hLis h n k) n p = dSn m n p k := by
  unfold hSndB dSn
  refine bO_cong (fun s hs => ?_)
  show (decide (lsF (fun s => hPlace h s k) h.ats n s = p) && decide (0 < lsF (fun s => hStr h s k) h.str n s)) = _
  rw [lsF_in hs, lsF_in hs, q_pl r hs, q_st r hs, Bool.and_comm]
theorem q_at {n N : Nat} {h : HaS} {m : MdS} (r : rQ n N h m) (p k : Int32) : hStrAt (hLis h n k) n p = dLo m n (dSn m n p k) k := by
  have hn8 : n ≤ 8 := r.2.2.2.2.2.2.2.2.1
  unfold hStrAt dLo
  have e1 : sumOf (fun s => decide ((hLis h n k).ats s = p)) (hLis h n k).str n = sumOf (fun s => decide (dPl m s k = p)) (fun s => dSt m s k) n := by
    refine sO_cong (fun s hs => ?_) (fun s hs => ?_)
    · show decide (lsF (fun s => hPlace h s k) h.ats n s = p) = _
      rw [lsF_in hs, q_pl r hs]
    · show lsF (fun s => hStr h s k) h.str n s = _
      rw [lsF_in hs, q_st r hs]
  rw [e1]
  refine sO_zero (fun s hs => ?_)
  unfold dSn
  rw [hasB_bitsOf _ (by omega) hs]
  rcases q_str0 h s k with z | z
  · exact Or.inr (by rw [← q_st r hs]; exact z)
  · refine Or.inl ?_
    rw [q_st r hs] at z
    rw [decide_eq_true z, Bool.true_and]
theorem q_of {n N : Nat} {h : HaS} {m : MdS} (r : rQ n N h m) (b k : Int32) : hStrOf (hLis h n k) n b = dLo m n b k := by
  unfold hStrOf dLo
  refine sO_cong (fun s hs => rfl) (fun s hs => ?_)
  show lsF (fun s => hStr h s k) h.str n s = _
  rw [lsF_in hs, q_st r hs]
theorem q_last {n N : Nat} {h : HaS} {m : MdS} (r : rQ n N h m) : hLast (hLis h n 0) n = dAl m n := by
  unfold hLast dAl
  refine bO_cong (fun s hs => ?_)
  show decide (0 < lsF (fun s => hStr h s 0) h.str n s) = _
  rw [lsF_in hs, q_st r hs]
theorem q_clear {n N : Nat} {h : HaS} {m : MdS} (r : rQ n N h m) (p : Int32) : hClear (hLis h n 0) n p = dCl m n (dSn m n p 0) 0 := by
  have hn8 : n ≤ 8 := r.2.2.2.2.2.2.2.2.1
  unfold hClear dCl
  rw [q_at r p 0]
  have hb : ∀ s, s < n → 0 ≤ (dSt m s 0).toInt ∧ (dSt m s 0).toInt ≤ 30 := fun s hs => by
    rw [← q_st r hs]
    exact q_strR r hs (by decide) (by decide)
  obtain ⟨T, hT⟩ : ∃ T, T = dLo m n (dSn m n p 0) 0 := ⟨_, rfl⟩
  have hB := sO_int (q := fun s => hasB (dSn m n p 0) (nI s)) (f := fun s => dSt m s 0) hn8 hb
  have hB : 0 ≤ T.toInt ∧ T.toInt ≤ 30 * n := by
    rw [hT]
    exact hB
  have hdb : ∀ s, s < n → (2 * dSt m s 0).toInt = 2 * (dSt m s 0).toInt := fun s hs => by
    have := hb s hs
    rw [pn_mul (by rw [pn_2]; omega) (by rw [pn_2]; omega), pn_2]
  rw [← hT]
  have hpp : firstF (fun s => decide ((hLis h n 0).ats s = p) && decide (T < 2 * (hLis h n 0).str s)) n 0 = firstF (fun s => hasB (dSn m n p 0) (nI s) && decide (T < 2 * dSt m s 0)) n 0 := by
    refine fF_cong (fun s _ hs => ?_)
    have hs : s < n := by omega
    show (decide (lsF (fun s => hPlace h s 0) h.ats n s = p) && decide (T < 2 * lsF (fun s => hStr h s 0) h.str n s)) = _
    rw [lsF_in hs, lsF_in hs, q_pl r hs, q_st r hs]
    unfold dSn
    rw [hasB_bitsOf _ (by omega) hs]
    by_cases c : T < 2 * dSt m s 0
    · have c2 : 0 < dSt m s 0 := by
        rw [pn_lt, hdb s hs] at c
        rw [pn_lt, pn_0]
        omega
      rw [decide_eq_true c, decide_eq_true c2, Bool.true_and]
    · rw [decide_eq_false c, Bool.and_false, Bool.and_false]
  rw [hpp]
  refine fl_one ?_
  have key : ∀ i j, i < j → j < n → (hasB (dSn m n p 0) (nI i) && decide (T < 2 * dSt m i 0)) = true → (hasB (dSn m n p 0) (nI j) && decide (T < 2 * dSt m j 0)) = true → False := by
    intro i j hij hj h1 h2
    rw [Bool.and_eq_true, decide_eq_true_iff, pn_lt] at h1 h2
    rw [hdb i (by omega)] at h1
    rw [hdb j hj] at h2
    have := sO_two (q := fun s => hasB (dSn m n p 0) (nI s)) (f := fun s => dSt m s 0) hn8 hb hij hj h1.1 h2.1
    have e : (sumOf (fun s => hasB (dSn m n p 0) (nI s)) (fun s => dSt m s 0) n).toInt = T.toInt := by rw [hT]; rfl
    rw [e] at this
    have h1 := h1.2
    have h2 := h2.2
    omega
  intro i j hi hj h1 h2
  rcases Nat.lt_trichotomy i j with c | c | c
  · exact absurd (key i j c hj h1 h2) id
  · exact c
  · exact absurd (key j i c hi h2 h1) id
theorem q_sea {n N : Nat} {h : HaS} {m : MdS} (r : rQ n N h m) (p : Int32) : hSea (hLis h n 0) n p = (!decide (dSn m n p 0 = 0) && decide (dCl m n (dSn m n p 0) 0 = -9)) := by
  unfold hSea
  rw [q_snd r, q_clear r]
/-! the questions -/
theorem wS_nat {n : Nat} {x sa : Int32} (hn : sa = nI n) (hn8 : n ≤ 8) (c : wIn x 0 (sa - 1) = true) : x.toNatClampNeg < n ∧ x = nI x.toNatClampNeg := wIn_nat hn hn8 c
theorem q_saying {n N : Nat} {h : HaS} {m : MdS} (r : rQ n N h m) (s what : Int32) : xSayR h s what = ySayR m s what := by
  have hn8 : n ≤ 8 := r.2.2.2.2.2.2.2.2.1
  have hsa : h.mo.sayings = m.st 1 := r.2.2.2.2.2.2.2.2.2.2.1
  have hsn : h.mo.sayings = nI n := r.2.2.2.2.2.2.2.2.2.2.2.1
  unfold xSayR ySayR
  rw [← hsa]
  by_cases c : wIn s 0 (h.mo.sayings - 1) = true
  · rw [if_pos c, if_pos c]
    obtain ⟨hs, es⟩ := wIn_nat hsn hn8 c
    have hf := r.2.2.2.2.2.2.2.2.2.2.2.2.2.2.1 s.toNatClampNeg hs
    have hg := (r.2.2.2.2.2.2.2.2.2.2.2.2.2.2.2.1 s.toNatClampNeg hs).1
    obtain ⟨f1, f2, f3, f4, f5, f6⟩ := hf
    rw [f1, f2, f3, f4, q_pl r hs, q_laps r hs, q_st r hs]
    have e7 : bI (hasB h.mo.hushed s) = m.st (42 + s.toNatClampNeg) := by
      rw [es, nI_clamp (by omega), hasB_bt _ (by omega), f6]
      rcases hg with g | g
      · rw [g]
        rfl
      · rw [g]
        rfl
    have e8 : hLastOf h s.toNatClampNeg = dLs m s.toNatClampNeg := by
      unfold hLastOf dLs
      exact congrArg (fun q => oI (firstF q 1000 0)) (funext fun k => by rw [q_st r hs])
    rw [e7, e8]
  · rw [if_neg c, if_neg c]
theorem q_quiet {n N : Nat} {h : HaS} {m : MdS} (r : rQ n N h m) (p : Int32) : hQuiF h n p = firstF (fun k => decide (dSn m n p (nI k) = 0)) 100 0 := by
  unfold hQuiF
  exact congrArg (fun q => firstF q 100 0) (funext fun k => by rw [q_snd r])
theorem wP_nat {N : Nat} {x pl : Int32} (hN : pl = nI N) (h4 : 4 ≤ N) (hN24 : N ≤ 24) (c : wIn x 0 (pl - 1) = true) : x.toNatClampNeg < N ∧ x = nI x.toNatClampNeg := by
  rw [wIn_iff, hN, show nI N - 1 = nI (N - 1) by rw [show (1 : Int32) = nI 1 from rfl, pk_sub (by omega)], nI_toInt (by omega), pn_0] at c
  obtain ⟨j, hj, rfl⟩ := nI_of (x := x) (by rw [pn_lt, pn_0]; omega)
  rw [nI_toInt hj] at c
  rw [nI_clamp hj]
  exact ⟨by omega, rfl⟩
theorem q_place {n N : Nat} {h : HaS} {m : MdS} (r : rQ n N h m) (p what : Int32) : xPlR h n p what = yPlR m n p what := by
  obtain ⟨hpl, hlo, hni, h4, h24, hN, -⟩ := id r
  unfold xPlR yPlR
  rw [hpl]
  by_cases c : wIn p 0 (m.pl - 1) = true
  · rw [if_pos c, if_pos c]
    obtain ⟨hp, ep⟩ := wP_nat hN h4 h24 c
    have e0 : bI (hasB (hLis h n 0).nich p) = (m.nich >>> (p &&& 31)) &&& 1 := by
      show bI (hasB h.nich p) = _
      rw [hni, ep, hasB_bt _ (by omega), b_bit _ (by omega)]
    have e4 : hasB (hLis h n 0).nich p = hasB m.nich p := by
      show hasB h.nich p = _
      rw [hni]
    have e3 : bI (hSea (hLis h n 0) n p) = if dSn m n p 0 = 0 then 0 else if dCl m n (dSn m n p 0) 0 = -9 then 1 else 0 := by
      rw [q_sea r]
      by_cases d1 : dSn m n p 0 = 0
      · rw [if_pos d1, decide_eq_true d1]
        rfl
      · rw [if_neg d1, decide_eq_false d1]
        by_cases d2 : dCl m n (dSn m n p 0) 0 = -9
        · rw [if_pos d2, decide_eq_true d2]
          rfl
        · rw [if_neg d2, decide_eq_false d2]
          rfl
    have e5 : hQuiF (hLis h n 0) n p = hQuiF h n p := by
      unfold hQuiF
      refine congrArg (fun q => firstF q 100 0) (funext fun k => ?_)
      have e : hSndB (hLis (hLis h n 0) n (nI k)) n p = hSndB (hLis h n (nI k)) n p := by
        unfold hSndB
        refine bO_cong (fun s hs => ?_)
        show (decide (lsF (fun s => hPlace h s (nI k)) (lsF (fun s => hPlace h s 0) h.ats n) n s = p) && decide (0 < lsF (fun s => hStr h s (nI k)) (lsF (fun s => hStr h s 0) h.str n) n s)) = (decide (lsF (fun s => hPlace h s (nI k)) h.ats n s = p) && decide (0 < lsF (fun s => hStr h s (nI k)) h.str n s))
        rw [lsF_in hs, lsF_in hs, lsF_in hs, lsF_in hs]
      rw [e]
    rw [e0, e3, e4, e5, q_quiet r, q_snd r, q_clear r, q_at r, Int32.one_mul]
    rfl
  · rw [if_neg c, if_neg c]
theorem q_now {n N : Nat} {h : HaS} {m : MdS} (r : rQ n N h m) (what : Int32) : xNoR h n N what = yNoR m n N what := by
  have ht : h.mo.tick = m.st 0 := r.2.2.2.2.2.2.2.2.2.1
  have e3 : hNSnd (hLis h n 0) n N = nI (dTh m n N false) := by
    unfold hNSnd dTh
    refine congrArg nI (cO_cong (fun p _ => ?_))
    rw [q_snd r, Bool.not_false, Bool.true_or, Bool.and_true]
  have e4 : hNSea (hLis h n 0) n N = nI (dTh m n N true) := by
    unfold hNSea dTh
    refine congrArg nI (cO_cong (fun p _ => ?_))
    rw [q_sea r, Bool.not_true, Bool.false_or]
  unfold xNoR yNoR
  rw [e3, e4, q_of r, q_last r, ht]
theorem q_when {n N : Nat} {h : HaS} {m : MdS} (r : rQ n N h m) (s p what : Int32) : xWhR h s p what = yWhR m s p what := by
  have hn8 : n ≤ 8 := r.2.2.2.2.2.2.2.2.1
  have hsa : h.mo.sayings = m.st 1 := r.2.2.2.2.2.2.2.2.2.2.1
  have hsn : h.mo.sayings = nI n := r.2.2.2.2.2.2.2.2.2.2.2.1
  unfold xWhR yWhR
  rw [← hsa, r.1]
  by_cases c : wIn s 0 (h.mo.sayings - 1) = true
  · rw [if_pos c, if_pos c]
    obtain ⟨hs, es⟩ := wIn_nat hsn hn8 c
    have e : (fun k => hSnd h s.toNatClampNeg p (nI k)) = (fun k => decide (0 < dSt m s.toNatClampNeg (nI k)) && decide (dPl m s.toNatClampNeg (nI k) = p)) := by
      funext k
      unfold hSnd
      rw [q_pl r hs, q_st r hs, Bool.and_comm]
    unfold hWhen hOften
    rw [e, Nat.sub_zero, cF_cnt]
    by_cases c2 : wIn p 0 (m.pl - 1) = true
    · rw [if_pos c2, if_pos c2]
      by_cases w0 : what = 0
      · rw [if_pos w0, if_pos (by rw [w0]; decide), if_pos w0]
      · rw [if_neg w0]
        by_cases w1 : what = 1
        · rw [if_pos w1, if_pos (by rw [w1]; decide), if_neg w0]
        · rw [if_neg w1, if_neg]
          intro hw
          obtain ⟨h1, h2⟩ := wIn_nn (k := 1) (by decide) hw
          rcases (show what.toNatClampNeg = 0 ∨ what.toNatClampNeg = 1 by omega) with q | q
          · exact w0 (by rw [h2, q]; rfl)
          · exact w1 (by rw [h2, q]; rfl)
    · rw [if_neg c2, if_neg c2]
  · rw [if_neg c, if_neg c]
theorem q_meet {n N : Nat} {h : HaS} {m : MdS} (r : rQ n N h m) (s t : Int32) : xMeR h s t = yMeR m s t := by
  have hn8 : n ≤ 8 := r.2.2.2.2.2.2.2.2.1
  have hsa : h.mo.sayings = m.st 1 := r.2.2.2.2.2.2.2.2.2.2.1
  have hsn : h.mo.sayings = nI n := r.2.2.2.2.2.2.2.2.2.2.2.1
  unfold xMeR yMeR
  rw [← hsa]
  by_cases c : wIn s 0 (h.mo.sayings - 1) = true
  · rw [if_pos c, if_pos c]
    by_cases c2 : wIn t 0 (h.mo.sayings - 1) = true
    · rw [if_pos c2, if_pos c2]
      obtain ⟨hs, es⟩ := wIn_nat hsn hn8 c
      obtain ⟨ht, et⟩ := wIn_nat hsn hn8 c2
      have e : hMeet h s.toNatClampNeg t.toNatClampNeg = oI (firstF (fun k => decide (0 < dSt m s.toNatClampNeg (nI k)) && (decide (0 < dSt m t.toNatClampNeg (nI k)) && decide (dPl m s.toNatClampNeg (nI k) = dPl m t.toNatClampNeg (nI k)))) 1000 0) := by
        unfold hMeet hSnd
        refine congrArg (fun q => oI (firstF q 1000 0)) (funext fun k => ?_)
        rw [q_pl r hs, q_st r hs, q_pl r ht, q_st r ht, Bool.and_comm (decide (dPl m t.toNatClampNeg (nI k) = _)), decide_eq_decide.mpr (eq_comm (a := dPl m t.toNatClampNeg (nI k)))]
      rw [e]
    · rw [if_neg c2, if_neg c2]
  · rw [if_neg c, if_neg c]
theorem q_best {n N : Nat} {h : HaS} {m : MdS} (r : rQ n N h m) (p q sp wa lo : Int32) : xBeR h n N p q sp wa lo = yBeR m n N p q sp wa lo := by
  obtain ⟨hpl, hlo, hni, h4, h24, hN, -⟩ := id r
  unfold xBeR yBeR mayB
  rw [hpl]
  by_cases c1 : wIn p 0 (m.pl - 1) = true
  · by_cases c2 : wIn sp 1 6 = true
    · by_cases c3 : wIn wa 0 1 = true
      · by_cases c4 : wIn lo 1 30 = true
        · rw [c1, c2, c3, c4]
          by_cases c5 : wIn q 0 (m.pl - 1) = true
          · rw [c5]
            simp only [Bool.and_self, if_true]
            have e : firstF (fun k => decide (hReach h p wa (sp * nI k) = q)) N 0 = firstF (fun k => decide (dBy m p sp wa (nI k) = q)) N 0 := by
              refine congrArg (fun g => firstF g N 0) (funext fun k => ?_)
              rw [q_reach r]
              rfl
            unfold hTicksTo
            rw [e]
            cases hF : firstF (fun k => decide (dBy m p sp wa (nI k) = q)) N 0 with
            | none => rfl
            | some i =>
              have hi := (fF_bd hF).2.1
              have hne : ¬ oI (some i) = -9 := by
                show ¬ nI i = -9
                intro g
                have := congrArg Int32.toInt g
                rw [nI_toInt (by omega)] at this
                have e9 : (-9 : Int32).toInt = -9 := by decide
                rw [e9] at this
                omega
              rw [if_neg hne]
              show (if hLeft h lo (sp * nI i) = 0 then -9 else oI (hWaitF h n q (nI i) (hLeft h lo (sp * nI i)))) = yBe2 m n q sp lo i
              unfold yBe2
              rw [q_left r]
              by_cases d : 0 < lo - m.loss * (sp * nI i / m.pl)
              · rw [if_pos d, if_pos d]
                have d2 : ¬ lo - m.loss * (sp * nI i / m.pl) = 0 := by
                  intro g
                  rw [g] at d
                  exact absurd d (by decide)
                rw [if_neg d2]
                unfold hWaitF
                refine congrArg (fun g => oI (firstF g 100 0)) (funext fun k => ?_)
                rw [q_at r]
              · rw [if_neg d, if_neg d, if_pos rfl]
          · rw [Bool.not_eq_true] at c5
            rw [c5]
            simp
        · rw [Bool.not_eq_true] at c4
          rw [c4]
          simp
      · rw [Bool.not_eq_true] at c3
        rw [c3]
        simp
    · rw [Bool.not_eq_true] at c2
      rw [c2]
      simp
  · rw [Bool.not_eq_true] at c1
    rw [c1]
    simp
