/-! ===== the items ===== -/
theorem nI_or (a b : Nat) : nI a ||| nI b = nI (a ||| b) := by
  apply Int32.toBitVec_inj.1
  show BitVec.ofNat 32 a ||| BitVec.ofNat 32 b = BitVec.ofNat 32 (a ||| b)
  apply BitVec.eq_of_getLsbD_eq
  intro i hi
  simp [hi]
theorem sh_24 : ∀ p : Fin 24, (1 : Int32) <<< (nI p.val &&& 31) = nI (2 ^ p.val) := by decide +kernel
theorem num_in {v lo hi : Int32} {b : Bool} (h : (b && wIn v lo hi) = true) : b = true ∧ lo.toInt ≤ v.toInt ∧ v.toInt ≤ hi.toInt := by
  rw [Bool.and_eq_true, wIn_iff] at h
  exact h
theorem tok2_lt {B : Nat → Int32} {Z q : Nat} (h : stT B Z q = 2) : q < Z := by
  rcases Nat.lt_or_ge q Z with g | g
  · exact g
  · unfold stT at h
    rw [if_neg (by omega)] at h
    exact absurd h (by decide)
section
variable {B : Nat → Int32} {Z it q : Nat} {s : ScS} {h : HaS} {t1 : MdS}
/-- t1: the model behind the item's letter -/
def rdL (B : Nat → Int32) (Z it q : Nat) (s : ScS) (h : HaS) (t1 : MdS) : Prop := q < Z ∧ rdT B Z q s ∧ stE B Z q = q + 1 ∧ t1.text = B ∧ t1.len = nI Z ∧ t1.pos = nI (q + 1) ∧ t1.wrong < 0 ∧ s.told = t1.sl ∧ t1.items = nI it ∧ 3 * it ≤ q ∧ rdC h t1
/-- its first number -/
theorem rd_num (hZ : Z ≤ 120) (r : rdL B Z it q s h t1) (lo hi : Int32) : ∃ q1, q1 ≤ Z ∧ q + 1 ≤ q1 ∧ rdT B Z q1 (scStep s) ∧ (scStep s).told = s.told ∧
    ((numOk (scStep s) lo hi = true ∧ 3 * it + 2 ≤ stE B Z q1 ∧ (lo.toInt ≤ ((scStep s).val).toInt ∧ ((scStep s).val).toInt ≤ hi.toInt) ∧ (∃ p, p = nI (stE B Z q1) ∧ dNum t1 lo hi = mPos t1 p) ∧ dNumR t1 lo hi = (scStep s).val)
     ∨ (numOk (scStep s) lo hi = false ∧ ∃ p, p = nI q1 ∧ dNum t1 lo hi = mWr (mPos t1 p) p)) := by
  obtain ⟨hq, hT, hE, hB, hz, hp, hw, htold, hit, h3, hC⟩ := r
  obtain ⟨hT1, ht1⟩ := c_next hZ (Nat.le_of_lt hq) hT
  rw [hE] at hT1
  have hQ := stQ_le (B := B) (show q + 1 ≤ Z from hq)
  obtain ⟨m1, m2⟩ := m_num hZ hz hp hq hw lo hi
  rw [hB] at m1 m2
  generalize stQ B Z (q + 1) = q1 at *
  refine ⟨q1, hQ.2, hQ.1, hT1, ht1, ?_⟩
  have eN : numOk (scStep s) lo hi = (decide (stT B Z q1 = 2) && wIn (stV B Z q1) lo hi) := by
    unfold numOk
    rw [hT1.2.2.2.2.1, hT1.2.2.2.2.2]
  rw [eN]
  cases c : (decide (stT B Z q1 = 2) && wIn (stV B Z q1) lo hi)
  · exact Or.inr ⟨rfl, m2 c⟩
  · obtain ⟨g1, g2⟩ := num_in c
    have t2 := tok2_lt (of_decide_eq_true g1)
    have := stE_gt (B := B) t2
    refine Or.inl ⟨rfl, by omega, ?_, (m1 c).1, ?_⟩
    · rw [hT1.2.2.2.2.2]
      exact g2
    · rw [hT1.2.2.2.2.2]
      exact (m1 c).2
theorem rd_bad (hZ : Z ≤ 120) {u : MdS} {s1 : ScS} {h1 : HaS} {q1 : Nat} (hq1 : q1 ≤ Z) (hT : rdT B Z q1 s1) (hw : u.wrong = nI q1) : rdO B Z it (s1, h1, false) (dEnd u) := by
  rw [dEnd_w (by rw [hw]; exact nI_nn (by omega))]
  exact Or.inr ⟨rfl, q1, hq1, hT.2.2.2.1, hw⟩
theorem rd_n (hZ : Z ≤ 120) (r : rdL B Z it q s h t1) : rdO B Z it (rPl s h) (dEnd (mRp (dNum t1 4 24) (dNumR t1 4 24))) := by
  obtain ⟨q1, hq1, hqq, hT1, ht1, k⟩ := rd_num hZ r 4 24
  obtain ⟨hq, hT, hE, hB, hz, hp, hw, htold, hit, h3, hC⟩ := r
  unfold rPl
  rcases k with ⟨k1, k2, k3, ⟨p, ep, eD⟩, k5⟩ | ⟨k1, p, ep, eD⟩
  · rw [if_pos k1, eD, k5]
    obtain ⟨c1, c2, c3, c4, c5, c6, c7, c8⟩ := hC
    refine rd_fin hZ hq1 hT1 hB hz ep hw (ht1.trans htold) hit k2 ⟨rfl, c2, c3, ?_, c5, c6, c7, c8⟩
    rw [show (4 : Int32).toInt = 4 by decide, show (24 : Int32).toInt = 24 by decide] at k3
    obtain ⟨j, hj, ej⟩ := nI_of (x := (scStep s).val) (by rw [pn_lt, pn_0]; omega)
    rw [ej, nI_toInt hj] at k3
    exact ⟨j, by omega, by omega, ej⟩
  · rw [if_neg (by rw [k1]; decide), eD]
    exact rd_bad hZ hq1 hT1 ep
theorem rd_l (hZ : Z ≤ 120) (r : rdL B Z it q s h t1) : rdO B Z it (rLo s h) (dEnd (mRl (dNum (mSl t1 1) 1 9) (dNumR (mSl t1 1) 1 9))) := by
  obtain ⟨hq, hT, hE, hB, hz, hp, hw, htold, hit, h3, hC⟩ := id r
  -- the same item, loss told on both sides
  have r' : rdL B Z it q (scTold s) h (mSl t1 1) := ⟨hq, hT, hE, hB, hz, hp, hw, rfl, hit, h3, hC⟩
  obtain ⟨q1, hq1, hqq, hT1, ht1, k⟩ := rd_num hZ r' 1 9
  have es : scStep (scTold s) = scTold (scStep s) := by
    rw [scStep_def, scStep_def]
    rfl
  rw [es] at hT1 k
  generalize mSl t1 1 = u1 at *
  obtain ⟨-, -, -, hB, hz, hp, hw, htold', hit, -, hC⟩ := r'
  unfold rLo
  have en : numOk (scTold (scStep s)) 1 9 = numOk (scStep s) 1 9 := rfl
  rw [en] at k
  rcases k with ⟨k1, k2, k3, ⟨p, ep, eD⟩, k5⟩ | ⟨k1, p, ep, eD⟩
  · rw [if_pos k1, eD, k5]
    obtain ⟨c1, c2, c3, c4, c5, c6, c7, c8⟩ := hC
    have k3 : (1 : Int32).toInt ≤ (scStep s).val.toInt ∧ (scStep s).val.toInt ≤ (9 : Int32).toInt := k3
    rw [pn_1, show (9 : Int32).toInt = 9 by decide] at k3
    exact rd_fin hZ hq1 hT1 hB hz ep hw htold' hit k2 ⟨c1, rfl, c3, c4, k3.1, k3.2, c7, c8⟩
  · rw [if_neg (by rw [k1]; decide), eD]
    exact rd_bad (s1 := scStep s) hZ hq1 hT1 ep
theorem rd_h (hZ : Z ≤ 120) (r : rdL B Z it q s h t1) : rdO B Z it (rNi s h) (dEnd (mRn (dNum t1 0 (t1.rp - 1)) (t1.rn ||| ((1 : Int32) <<< (dNumR t1 0 (t1.rp - 1) &&& 31))))) := by
  obtain ⟨q1, hq1, hqq, hT1, ht1, k⟩ := rd_num hZ r 0 (t1.rp - 1)
  obtain ⟨hq, hT, hE, hB, hz, hp, hw, htold, hit, h3, hC⟩ := r
  unfold rNi
  rw [hC.1]
  rcases k with ⟨k1, k2, k3, ⟨p, ep, eD⟩, k5⟩ | ⟨k1, p, ep, eD⟩
  · rw [if_pos k1, eD, k5]
    obtain ⟨c1, c2, c3, ⟨N, hN4, hN24, eN⟩, c5, c6, ⟨w, hw24, ew⟩, c8⟩ := hC
    have e1 : (t1.rp - 1).toInt = (N : Int) - 1 := by
      rw [eN, pn_sub (by rw [nI_toInt (by omega), pn_1]; omega) (by rw [nI_toInt (by omega), pn_1]; omega), nI_toInt (by omega), pn_1]
    rw [pn_0, e1] at k3
    obtain ⟨j, hj, ej⟩ := nI_of (x := (scStep s).val) (by rw [pn_lt, pn_0]; omega)
    rw [ej, nI_toInt hj] at k3
    have ev : t1.rn ||| ((1 : Int32) <<< ((scStep s).val &&& 31)) = nI (w ||| 2 ^ j) := by
      rw [ej, show (1 : Int32) <<< (nI j &&& 31) = nI (2 ^ j) from sh_24 ⟨j, by omega⟩, ew, nI_or]
    have hlt : w ||| 2 ^ j < 2 ^ 24 := Nat.or_lt_two_pow hw24 (Nat.pow_lt_pow_right (by omega) (by omega))
    obtain ⟨v, hv⟩ : ∃ v, v = t1.rn ||| ((1 : Int32) <<< ((scStep s).val &&& 31)) := ⟨_, rfl⟩
    rw [c3, ← hv]
    rw [← hv] at ev
    exact rd_fin hZ hq1 hT1 hB hz ep hw (ht1.trans htold) hit k2 ⟨rfl, c2, rfl, ⟨N, hN4, hN24, eN⟩, c5, c6, ⟨_, hlt, ev⟩, c8⟩
  · rw [if_neg (by rw [k1]; decide), eD]
    exact rd_bad hZ hq1 hT1 ep
end
/-! a saying: four numbers -/
/-- the model behind some of them: as t0 but for where it is and the row f -/
def rdP (t0 : MdS) (e : Nat) (f : Nat → Int32) (u : MdS) : Prop := u.text = t0.text ∧ u.len = t0.len ∧ u.pos = nI e ∧ u.wrong = t0.wrong ∧ u.items = t0.items ∧ u.rp = t0.rp ∧ u.rl = t0.rl ∧ u.sl = t0.sl ∧ u.rn = t0.rn ∧ u.read = f
theorem rdP_ok {t0 u : MdS} {e y i : Nat} {f : Nat → Int32} {p v : Int32} (h : rdP t0 e f u) (hp : p = nI y) : rdP t0 y (upd f i v) (mRd (mPos u p) (upd (mPos u p).read i v)) := by
  obtain ⟨h1, h2, h3, h4, h5, h6, h7, h8, h9, h10⟩ := h
  exact ⟨h1, h2, hp, h4, h5, h6, h7, h8, h9, by show upd u.read i v = _; rw [h10]⟩
theorem dNS_w {t : MdS} {i : Nat} {lo hi : Int32} (h : ¬ t.wrong < 0) : (dNS t i lo hi).wrong = t.wrong := by
  rw [dNS, dNum_w h]
  rfl
/-- one number of four -/
theorem rd_one {B : Nat → Int32} {Z e qa : Nat} {s : ScS} {t0 u : MdS} {f : Nat → Int32} (hZ : Z ≤ 120) (hqa : qa ≤ Z) (hT : rdT B Z qa s) (he : e = stE B Z qa) (hB : t0.text = B) (hz : t0.len = nI Z) (hw : t0.wrong < 0) (hu : rdP t0 e f u) (i : Nat) (lo hi : Int32) : ∃ q1, q1 ≤ Z ∧ rdT B Z q1 (scStep s) ∧ (scStep s).told = s.told ∧ e ≤ q1 ∧
    ((numOk (scStep s) lo hi = true ∧ q1 < stE B Z q1 ∧ (lo.toInt ≤ ((scStep s).val).toInt ∧ ((scStep s).val).toInt ≤ hi.toInt) ∧ rdP t0 (stE B Z q1) (upd f i (scStep s).val) (dNS u i lo hi))
     ∨ (numOk (scStep s) lo hi = false ∧ (dNS u i lo hi).wrong = nI q1)) := by
  obtain ⟨hT1, ht1⟩ := c_next hZ hqa hT
  obtain ⟨h1, h2, h3, h4, h5, h6, h7, h8, h9, h10⟩ := id hu
  have heZ := (stE_le (B := B) hqa).2
  rw [← he] at hT1 heZ
  have hQ := stQ_le (B := B) heZ
  obtain ⟨m1, m2⟩ := m_num (t := u) hZ (h2.trans hz) h3 heZ (by rw [h4]; exact hw) lo hi
  rw [h1, hB] at m1 m2
  generalize stQ B Z e = q1 at *
  refine ⟨q1, hQ.2, hT1, ht1, hQ.1, ?_⟩
  have eN : numOk (scStep s) lo hi = (decide (stT B Z q1 = 2) && wIn (stV B Z q1) lo hi) := by
    unfold numOk
    rw [hT1.2.2.2.2.1, hT1.2.2.2.2.2]
  rw [eN]
  cases c : (decide (stT B Z q1 = 2) && wIn (stV B Z q1) lo hi)
  · obtain ⟨p, ep, eD⟩ := m2 c
    refine Or.inr ⟨rfl, ?_⟩
    rw [dNS, eD]
    exact ep
  · obtain ⟨g1, g2⟩ := num_in c
    have t2 := tok2_lt (of_decide_eq_true g1)
    obtain ⟨⟨p, ep, eD⟩, eR⟩ := m1 c
    refine Or.inl ⟨rfl, stE_gt t2, ?_, ?_⟩
    · rw [hT1.2.2.2.2.2]
      exact g2
    · rw [hT1.2.2.2.2.2, dNS, eD, eR]
      exact rdP_ok hu ep
theorem rdC_say {h : HaS} {t0 u : MdS} {n e : Nat} {p sp wa lo : Int32} (hC : rdC h t0) (hn : t0.read 1 = nI n) (hn8 : n < 8) (hsp : 1 ≤ sp.toInt ∧ sp.toInt ≤ 6) (hlo : 1 ≤ lo.toInt ∧ lo.toInt ≤ 30) (hu : rdP t0 e (upd (upd (upd (upd t0.read (2 + n) p) (10 + n) sp) (18 + n) wa) (26 + n) lo) u) : rdC (hAddS h p sp wa lo) (dS5 u) := by
  obtain ⟨c1, c2, c3, c4, c5, c6, c7, c8, c9, c10, c11, k, hk⟩ := hC
  obtain ⟨h1, h2, h3, h4, h5, h6, h7, h8, h9, h10⟩ := hu
  obtain ⟨k8, a1, a2, a3, a4, a5, hf, hg, hz⟩ := hk
  have ek : k = n := (nI_eq (by omega) (by omega)).mp ((a3.symm.trans a2).trans hn)
  subst ek
  have es : h.mo.sayings.toNatClampNeg = k := by rw [a3]; exact nI_clamp (by omega)
  have el : h.mo.sayings < 8 := by
    rw [a3]
    exact (nI_ltI (by omega) (by decide)).mpr (show k < 8 from hn8)
  have eA : hAddS h p sp wa lo = (h.pl, h.loss, h.nich, (h.mo.tick, nI (k + 1), h.mo.hushed, h.mo.noted, upd h.mo.frm k p, upd h.mo.speed k sp, upd h.mo.way k wa, upd h.mo.loud k lo, upd h.mo.said k h.mo.tick, h.mo.deeds), h.ats, h.str) := by
    unfold hAddS moAdd
    rw [es, if_pos el]
  have eF : ∀ x, (dS5 u).read x = if x = 1 then nI (k + 1) else if x = 26 + k then lo else if x = 18 + k then wa else if x = 10 + k then sp else if x = 2 + k then p else t0.read x := by
    intro x
    show upd u.read 1 (u.read 1 + 1) x = _
    rw [h10, pk_un (f := upd (upd (upd t0.read (2 + k) p) (10 + k) sp) (18 + k) wa) (by omega), pk_un (f := upd (upd t0.read (2 + k) p) (10 + k) sp) (by omega), pk_un (f := upd t0.read (2 + k) p) (by omega), pk_un (f := t0.read) (k := 2 + k) (j := 1) (by omega), hn, nI_1]
    rfl
  rw [eA]
  refine ⟨c1.trans h6.symm, c2.trans h7.symm, c3.trans h9.symm, ?_, ?_, ?_, ?_, c8, c9, c10, ?_, k + 1, ?_⟩
  · show ∃ N : Nat, 4 ≤ N ∧ N ≤ 24 ∧ u.rp = nI N
    rw [h6]
    exact c4
  · show 1 ≤ u.rl.toInt
    rw [h7]
    exact c5
  · show u.rl.toInt ≤ 9
    rw [h7]
    exact c6
  · show ∃ c : Nat, c < 2 ^ 24 ∧ u.rn = nI c
    rw [h9]
    exact c7
  · intro y hy
    rw [eF, eF, if_neg (by omega), if_neg (by omega), if_neg (by omega), if_neg (by omega), if_neg (by omega), if_neg (by omega), if_neg (by omega), if_neg (by omega), if_neg (by omega), if_neg (by omega)]
    exact c11 y hy
  · have hb0 : ∀ y, bt h.mo.hushed y = false := fun y => by rw [c10]; exact b_0 y
    refine ⟨by omega, ?_, ?_, rfl, a4, a5, ?_, ?_, ?_⟩
    · show h.mo.tick = _
      rw [eF, if_neg (by omega), if_neg (by omega), if_neg (by omega), if_neg (by omega), if_neg (by omega)]
      exact a1
    · show nI (k + 1) = _
      rw [eF, if_pos rfl]
    · intro y hy
      show upd h.mo.frm k p y = _ ∧ upd h.mo.speed k sp y = _ ∧ upd h.mo.way k wa y = _ ∧ upd h.mo.loud k lo y = _ ∧ upd h.mo.said k h.mo.tick y = _ ∧ bt h.mo.hushed y = _
      have e42 : (dS5 u).read (42 + y) = 0 := by
        rw [eF, if_neg (by omega), if_neg (by omega), if_neg (by omega), if_neg (by omega), if_neg (by omega)]
        exact (c11 y (by omega)).2
      have e34 : (dS5 u).read (34 + y) = t0.read (34 + y) := by
        rw [eF, if_neg (by omega), if_neg (by omega), if_neg (by omega), if_neg (by omega), if_neg (by omega)]
      rw [e42, e34, hb0]
      by_cases ey : y = k
      · subst ey
        rw [pk_us, pk_us, pk_us, pk_us, pk_us]
        refine ⟨?_, ?_, ?_, ?_, ?_, by decide⟩
        · rw [eF, if_neg (by omega), if_neg (by omega), if_neg (by omega), if_neg (by omega), if_pos rfl]
        · rw [eF, if_neg (by omega), if_neg (by omega), if_neg (by omega), if_pos rfl]
        · rw [eF, if_neg (by omega), if_neg (by omega), if_pos rfl]
        · rw [eF, if_neg (by omega), if_pos rfl]
        · rw [(c11 y (by omega)).1, c8]
      · rw [pk_un ey, pk_un ey, pk_un ey, pk_un ey, pk_un ey]
        have b : ∀ z, (z = 2 ∨ z = 10 ∨ z = 18 ∨ z = 26) → (dS5 u).read (z + y) = t0.read (z + y) := by
          intro z hz
          rw [eF, if_neg (by omega), if_neg (by omega), if_neg (by omega), if_neg (by omega), if_neg (by omega)]
        rw [b 2 (by omega), b 10 (by omega), b 18 (by omega), b 26 (by omega)]
        have f := hf y (by omega)
        exact ⟨f.1, f.2.1, f.2.2.1, f.2.2.2.1, f.2.2.2.2.1, by decide⟩
    · intro y hy
      show (_ ∨ _) ∧ 1 ≤ (upd h.mo.speed k sp y).toInt ∧ (upd h.mo.speed k sp y).toInt ≤ 6 ∧ 1 ≤ (upd h.mo.loud k lo y).toInt ∧ (upd h.mo.loud k lo y).toInt ≤ 30 ∧ 0 ≤ (upd h.mo.said k h.mo.tick y).toInt ∧ (upd h.mo.said k h.mo.tick y).toInt ≤ h.mo.tick.toInt
      have e42 : (dS5 u).read (42 + y) = 0 := by
        rw [eF, if_neg (by omega), if_neg (by omega), if_neg (by omega), if_neg (by omega), if_neg (by omega)]
        exact (c11 y (by omega)).2
      by_cases ey : y = k
      · subst ey
        rw [pk_us, pk_us, pk_us]
        exact ⟨Or.inl e42, hsp.1, hsp.2, hlo.1, hlo.2, a4, Int.le_refl _⟩
      · rw [pk_un ey, pk_un ey, pk_un ey]
        exact ⟨Or.inl e42, (hg y (by omega)).2⟩
    · intro y _ _
      exact hb0 y
theorem mRd_wr (t : MdS) (f : Nat → Int32) : (mRd t f).wrong = t.wrong := rfl
theorem mRd_tx (t : MdS) (f : Nat → Int32) : (mRd t f).text = t.text := rfl
theorem mRd_ln (t : MdS) (f : Nat → Int32) : (mRd t f).len = t.len := rfl
theorem mRd_ps (t : MdS) (f : Nat → Int32) : (mRd t f).pos = t.pos := rfl
theorem mRd_sl (t : MdS) (f : Nat → Int32) : (mRd t f).sl = t.sl := rfl
theorem mRd_it (t : MdS) (f : Nat → Int32) : (mRd t f).items = t.items := rfl
theorem rd_s {B : Nat → Int32} {Z it q n : Nat} {s : ScS} {h : HaS} {t1 : MdS} (hZ : Z ≤ 120) (r : rdL B Z it q s h t1) (hn : t1.read 1 = nI n) (hn8 : n < 8) : rdO B Z it (rSa s h) (dSay t1 n) := by
  obtain ⟨hq, hT, hE, hB, hz, hp, hw, htold, hit, h3, hC⟩ := id r
  have hu0 : rdP t1 (q + 1) t1.read t1 := ⟨rfl, rfl, hp, rfl, rfl, rfl, rfl, rfl, rfl, rfl⟩
  rw [dSay_def, dSayD]
  unfold rSa
  rw [hC.1]
  have bad : ∀ (u : MdS) (q1 : Nat), q1 ≤ Z → u.wrong = nI q1 → ¬ u.wrong < 0 := fun u q1 g e => by rw [e]; exact nI_nn (by omega)
  obtain ⟨q1, hq1, hT1, ht1, g1, k1⟩ := rd_one hZ (Nat.le_of_lt hq) hT hE.symm hB hz hw hu0 (2 + n) 0 (t1.rp - 1)
  generalize dNS t1 (2 + n) 0 (t1.rp - 1) = u1 at *
  rcases k1 with ⟨n1, l1, b1, hu1⟩ | ⟨n1, w1⟩
  case inr =>
    rw [if_neg (by rw [n1]; decide)]
    have x1 := bad u1 q1 hq1 w1
    have e2 := dNS_w (i := 10 + n) (lo := 1) (hi := 6) x1
    generalize dNS u1 (10 + n) 1 6 = u2 at *
    rw [w1] at e2
    have x2 := bad u2 q1 hq1 e2
    have e3 := dNS_w (i := 18 + n) (lo := 0) (hi := 1) x2
    generalize dNS u2 (18 + n) 0 1 = u3 at *
    rw [e2] at e3
    have x3 := bad u3 q1 hq1 e3
    have e4 := dNS_w (i := 26 + n) (lo := 1) (hi := 30) x3
    generalize dNS u3 (26 + n) 1 30 = u4 at *
    rw [e3] at e4
    exact rd_bad hZ hq1 hT1 (by rw [dS5, mRd_wr]; exact e4)
  rw [if_pos n1]
  obtain ⟨q2, hq2, hT2, ht2, g2, k2⟩ := rd_one hZ hq1 hT1 rfl hB hz hw hu1 (10 + n) 1 6
  generalize dNS u1 (10 + n) 1 6 = u2 at *
  rcases k2 with ⟨n2, l2, b2, hu2⟩ | ⟨n2, w2⟩
  case inr =>
    rw [if_neg (by rw [n2]; decide)]
    have x2 := bad u2 q2 hq2 w2
    have e3 := dNS_w (i := 18 + n) (lo := 0) (hi := 1) x2
    generalize dNS u2 (18 + n) 0 1 = u3 at *
    rw [w2] at e3
    have x3 := bad u3 q2 hq2 e3
    have e4 := dNS_w (i := 26 + n) (lo := 1) (hi := 30) x3
    generalize dNS u3 (26 + n) 1 30 = u4 at *
    rw [e3] at e4
    exact rd_bad hZ hq2 hT2 (by rw [dS5, mRd_wr]; exact e4)
  rw [if_pos n2]
  obtain ⟨q3, hq3, hT3, ht3, g3, k3⟩ := rd_one hZ hq2 hT2 rfl hB hz hw hu2 (18 + n) 0 1
  generalize dNS u2 (18 + n) 0 1 = u3 at *
  rcases k3 with ⟨n3, l3, b3, hu3⟩ | ⟨n3, w3⟩
  case inr =>
    rw [if_neg (by rw [n3]; decide)]
    have x3 := bad u3 q3 hq3 w3
    have e4 := dNS_w (i := 26 + n) (lo := 1) (hi := 30) x3
    generalize dNS u3 (26 + n) 1 30 = u4 at *
    rw [w3] at e4
    exact rd_bad hZ hq3 hT3 (by rw [dS5, mRd_wr]; exact e4)
  rw [if_pos n3]
  obtain ⟨q4, hq4, hT4, ht4, g4, k4⟩ := rd_one hZ hq3 hT3 rfl hB hz hw hu3 (26 + n) 1 30
  generalize dNS u3 (26 + n) 1 30 = u4 at *
  rcases k4 with ⟨n4, l4, b4, hu4⟩ | ⟨n4, w4⟩
  case inr =>
    rw [if_neg (by rw [n4]; decide)]
    exact rd_bad hZ hq4 hT4 (by rw [dS5, mRd_wr]; exact w4)
  rw [if_pos n4]
  have hsay : h.mo.sayings < 8 := by
    obtain ⟨k, hk⟩ := hC.2.2.2.2.2.2.2.2.2.2.2
    have e : h.mo.sayings = nI n := hk.2.2.1.trans hn
    rw [e]
    exact (nI_ltI (by omega) (by decide)).mpr (show n < 8 from hn8)
  rw [decide_eq_true hsay, if_pos rfl]
  rw [pn_1, show (6 : Int32).toInt = 6 by decide] at b2
  rw [pn_1, show (30 : Int32).toInt = 30 by decide] at b4
  have hC5 := rdC_say hC hn hn8 b2 b4 hu4
  obtain ⟨h1, h2, h3', h4, h5, h6, h7, h8, h9, h10⟩ := hu4
  obtain ⟨v5, hv5⟩ : ∃ v5, v5 = dS5 u4 := ⟨_, rfl⟩
  rw [← hv5] at hC5 ⊢
  refine rd_fin hZ hq4 hT4 ?_ ?_ ?_ ?_ ?_ ?_ ?_ hC5
  · rw [hv5, dS5, mRd_tx]; exact h1.trans hB
  · rw [hv5, dS5, mRd_ln]; exact h2.trans hz
  · rw [hv5, dS5, mRd_ps]; exact h3'
  · rw [hv5, dS5, mRd_wr, h4]; exact hw
  · rw [ht4, ht3, ht2, ht1, htold, hv5, dS5, mRd_sl]; exact h8.symm
  · rw [hv5, dS5, mRd_it]; exact h5.trans hit
  · omega
