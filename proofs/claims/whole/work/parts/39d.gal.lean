/-! ===== the reading whole ===== -/
theorem mWr_wr (t : MdS) (v : Int32) : (mWr t v).wrong = v := rfl
theorem stT_ne0 {B : Nat → Int32} {Z q : Nat} (hq : q < Z) : ¬ stT B Z q = 0 := by
  unfold stT wgT
  rw [if_pos hq]
  by_cases t1 : tkOf (B q) = 1
  · rw [if_pos t1, t1]
    split
    · decide
    · rw [if_neg (by decide)]
      decide
  · rw [if_neg t1]
    by_cases t2 : tkOf (B q) = 2
    · rw [if_pos t2, t2]
      split
      · decide
      · rw [if_pos rfl]
        split
        · split <;> decide
        · decide
    · rw [if_neg t2]
      exact tkOf_0 _
theorem or4 {a b c d : Bool} (ha : a = false) (hb : b = false) (hc : c = false) (hd : d = false) : ¬ (a || b || c || d) = true := by
  rw [ha, hb, hc, hd]
  decide
theorem rd_item {B : Nat → Int32} {Z it : Nat} {s : ScS} {h : HaS} {t : MdS} (hZ : Z ≤ 120) (r : rdR B Z it s h t) (hlt : t.pos < t.len) : rdO B Z it (rIt s h (nI it)) (dItm t) := by
  obtain ⟨q, hqZ, hT, hB, hz, hp, hw, htold, hits, h3, hC⟩ := r
  have hq : q < Z := by
    rw [hp, hz] at hlt
    exact (nI_ltI (by omega) (by omega)).mp hlt
  obtain ⟨l1, l2, l3⟩ := lt_tok (B := B) hZ hq
  have eH : dHere t = B q := by
    rw [dHere, if_pos hlt, hp, nI_clamp (by omega), hB]
  have eA : dAlone t = true ↔ (q + 1 < Z → wIn (B (q + 1)) 97 122 = false) := by
    unfold dAlone
    rw [hp, nI_1, hz, hB, nI_clamp (by omega)]
    by_cases g : q + 1 < Z
    · rw [if_pos ((nI_ltI (by omega) (by omega)).mpr g)]
      cases wIn (B (q + 1)) 97 122
      · exact ⟨fun _ _ => rfl, fun _ => rfl⟩
      · exact ⟨fun e => absurd e (by decide), fun e => absurd (e g) (by decide)⟩
    · rw [if_neg (fun e => g ((nI_ltI (by omega) (by omega)).mp e))]
      exact ⟨fun _ e => absurd e g, fun _ => rfl⟩
  have fail : rdO B Z it (s, h, false) (mWr t t.pos) := Or.inr ⟨rfl, q, hqZ, hT.2.2.2.1, by rw [mWr_wr]; exact hp⟩
  obtain ⟨n, hn⟩ := hC.2.2.2.2.2.2.2.2.2.2.2
  have hn8 := hn.1
  have hrd : t.read 1 = nI n := hn.2.2.1.symm.trans hn.2.2.2.1
  rw [rIt_def, rItD, dItm_def, dItmD]
  have eM : dMay t = ((decide (B q = 110) && decide (nI it = 0)) || (decide (B q = 108) && decide (t.sl = 0)) || decide (B q = 104) || (decide (B q = 115) && decide (h.mo.sayings < 8))) := by
    unfold dMay
    rw [eH, hits, hn.2.2.1]
  rw [eH, eM, hT.2.2.2.2.1, hT.2.2.2.2.2, htold]
  by_cases a : wIn (B q) 97 122 = true
  · rw [if_pos (l1.mpr a)]
    by_cases al : q + 1 < Z → wIn (B (q + 1)) 97 122 = false
    · obtain ⟨eV, eE⟩ := l2 a al
      rw [eV, eA.mpr al, Bool.and_true]
      obtain ⟨v, hv⟩ : ∃ v, v = t.pos + 1 := ⟨_, rfl⟩
      have eI : dIn t = mPos t v := by rw [dIn, ← hv]
      rw [hp, nI_1] at hv
      have rL : rdL B Z it q s h (mPos t v) := ⟨hq, hT, eE, hB, hz, hv, hw, htold, hits, h3, hC⟩
      have eR : (mPos t v).read 1 = nI n := hrd
      rw [← eI] at rL eR
      rw [hrd, nI_clamp (by omega)]
      generalize dIn t = t1 at *
      generalize B q = c at *
      by_cases c4 : c = 104
      · subst c4
        rw [if_pos rfl, if_pos (by rfl), if_neg (by decide), if_neg (by decide), if_pos rfl]
        exact rd_h hZ rL
      · rw [if_neg c4]
        by_cases c8 : c = 108
        · subst c8
          rw [if_pos rfl]
          by_cases z : t.sl = 0
          · rw [if_pos z, if_pos (by rw [decide_eq_true z]; rfl), if_neg (by decide), if_pos rfl]
            exact rd_l hZ rL
          · rw [if_neg z, if_neg (by rw [decide_eq_false z]; exact or4 rfl rfl rfl rfl)]
            exact fail
        · rw [if_neg c8]
          by_cases c10 : c = 110
          · subst c10
            rw [if_pos rfl]
            by_cases z : nI it = 0
            · rw [if_pos z, if_pos (by rw [decide_eq_true z]; rfl), if_pos rfl]
              exact rd_n hZ rL
            · rw [if_neg z, if_neg (by rw [decide_eq_false z]; exact or4 rfl rfl rfl rfl)]
              exact fail
          · rw [if_neg c10]
            by_cases c15 : c = 115
            · subst c15
              rw [if_pos rfl]
              by_cases z : h.mo.sayings < 8
              · rw [if_pos z, if_pos (by rw [decide_eq_true z]; rfl), if_neg (by decide), if_neg (by decide), if_neg (by decide)]
                have hn7 : n < 8 := by
                  rw [hn.2.2.2.1] at z
                  exact (nI_ltI (by omega) (by decide)).mp (show nI n < nI 8 from z)
                exact rd_s hZ rL eR hn7
              · rw [if_neg z, if_neg (by rw [decide_eq_false z]; exact or4 rfl rfl rfl rfl)]
                exact fail
            · rw [if_neg c15, if_neg (by rw [decide_eq_false c10, decide_eq_false c8, decide_eq_false c4, decide_eq_false c15]; exact or4 rfl rfl rfl rfl)]
              exact fail
    · rw [l3 a al]
      have eA0 : dAlone t = false := by
        cases e : dAlone t
        · rfl
        · exact absurd (eA.mp e) al
      rw [eA0, Bool.and_false, if_neg (show ¬ (false = true) by decide), if_neg (show ¬ (0 : Int32) = 104 by decide), if_neg (show ¬ (0 : Int32) = 108 by decide), if_neg (show ¬ (0 : Int32) = 110 by decide), if_neg (show ¬ (0 : Int32) = 115 by decide)]
      exact fail
  · rw [if_neg (fun e => a (l1.mp e))]
    have nc : ∀ k : Int32, wIn k 97 122 = true → ¬ B q = k := fun k hk e => a (by rw [e]; exact hk)
    rw [decide_eq_false (nc 110 (by decide)), decide_eq_false (nc 108 (by decide)), decide_eq_false (nc 104 (by decide)), decide_eq_false (nc 115 (by decide))]
    rw [if_neg (by simp)]
    exact fail
theorem rd_loop {B : Nat → Int32} {Z : Nat} (hZ : Z ≤ 120) : ∀ (F it : Nat) (s : ScS) (h : HaS) (t : MdS), rdR B Z it s h t → Z - t.pos.toNatClampNeg < F →
    ((dLp F t).wrong < 0 ∧ (∃ k : Nat, k ≤ 40 ∧ (rLp (120 - it) it s h).2.2 = nI k ∧ (dLp F t).items = nI k) ∧ rdC (rLp (120 - it) it s h).2.1 (dLp F t)) ∨ (∃ q : Nat, q ≤ 120 ∧ (dLp F t).wrong = nI q ∧ (rLp (120 - it) it s h).2.2 = (-10) - nI q)
  | 0, _, _, _, _, _, hF => absurd hF (Nat.not_lt_zero _)
  | F + 1, it, s, h, t, r, hF => by
    obtain ⟨q, hqZ, hT, hB, hz, hp, hw, htold, hits, h3, hC⟩ := id r
    have hit : it ≤ 40 := by omega
    rw [hp, nI_clamp (by omega)] at hF
    by_cases hlt : t.pos < t.len
    · have hq : q < Z := by
        rw [hp, hz] at hlt
        exact (nI_ltI (by omega) (by omega)).mp hlt
      have ht0 : ¬ s.tok = 0 := by rw [hT.2.2.2.2.1]; exact stT_ne0 hq
      obtain ⟨n, hn⟩ := hC.2.2.2.2.2.2.2.2.2.2.2
      have hG : dG Z q n t := ⟨hz, hp, hqZ, hn.2.2.1.symm.trans hn.2.2.2.1, hn.1⟩
      obtain ⟨⟨y, k, hG2⟩, hadv⟩ := dG_itm hZ hG hq
      have hO := rd_item hZ r hlt
      rw [dLp, if_pos hw, if_pos hlt]
      generalize dItm t = u at *
      rcases hO with ⟨o1, o2, o3⟩ | ⟨o1, q1, hq1, o2, o3⟩
      · rw [rLp_y (by omega) ht0 o1, if_pos o2]
        have hy := hadv o2
        rw [hG2.2.1, nI_clamp (Nat.lt_of_le_of_lt hG2.2.2.1 (by omega))] at hy
        obtain ⟨z, hyz, -, hG3⟩ := dG_skp hZ hG2
        refine rd_loop hZ F (it + 1) _ _ _ o3 ?_
        rw [hG3.2.1, nI_clamp (Nat.lt_of_le_of_lt hG3.2.2.1 (by omega))]
        omega
      · have hnw : ¬ u.wrong < 0 := by rw [o3]; exact nI_nn (by omega)
        rw [rLp_n (by omega) ht0 o1, if_neg hnw, dLp_w hnw]
        exact Or.inr ⟨q1, by omega, o3, by show (-10) - (rIt s h (nI it)).1.tokAt = _; rw [o2]⟩
    · have hqe : q = Z := by
        rw [hp, hz] at hlt
        rcases Nat.lt_or_ge q Z with g | g
        · exact absurd ((nI_ltI (by omega) (by omega)).mpr g) hlt
        · omega
      have ht0 : s.tok = 0 := by
        rw [hT.2.2.2.2.1]
        unfold stT
        rw [if_neg (by omega)]
      rw [rLp_e (Or.inr ht0), dLp_p hlt]
      exact Or.inl ⟨hw, ⟨it, hit, rfl, hits⟩, hC⟩
