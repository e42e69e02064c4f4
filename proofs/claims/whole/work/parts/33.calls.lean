/-! ===== call by call: the answers alike, and the relation goes on ===== -/
section
variable {sc : ScS} {u : HeS} {h : HaS} {ke : Nat → Int32} {m0 m1 : MoS} {tr : Int64} {m : MdS}
theorem z_type (r : rAll sc u h ke m0 m1 tr m) {Z : Nat} (hZ : Z ≤ 120) (hz : sc.size = nI Z) (x : Int32) : xTypR sc Z x = yTyR m Z x ∧ rAll (xTypS sc Z x) u h ke m0 m1 tr (yTyT m Z x, yTyL m Z x, m.pl, m.loss, m.nich, m.st, m.book, m.undos, m.imgs, m.kept, m.heard, m.hm, m.trail, m.pos, m.wrong, m.items, m.rp, m.rl, m.sl, m.rn, m.read) := by
  obtain ⟨⟨Z2, hZ2, t1, t2, t3⟩, rr⟩ := r
  have e : Z2 = Z := (nI_eq (by omega) (by omega)).mp (t1.symm.trans hz)
  subst e
  have hlt : (sc.size < 120) ↔ Z2 < 120 := by rw [hz]; exact nI_ltI (by omega) (by decide)
  have heq : (m.len = 120) ↔ Z2 = 120 := by rw [t2]; exact nI_eq (by omega) (by decide)
  unfold xTypR yTyR xTypS yTyT yTyL scApp
  by_cases c : wIn x 0 255 = true
  · rw [if_pos c, if_pos c, if_pos c, if_pos c, if_pos c]
    by_cases c2 : Z2 < 120
    · have c3 : ¬ Z2 = 120 := by omega
      rw [if_pos (hlt.mpr c2), if_neg (fun q => c3 (heq.mp q)), if_neg (fun q => c3 (heq.mp q)), if_neg (fun q => c3 (heq.mp q)), decide_eq_true (hlt.mpr c2)]
      refine ⟨rfl, ⟨Z2 + 1, by omega, rfl, rfl, fun i hi => ?_⟩, rr⟩
      show upd sc.bytes Z2 x i = upd m.text Z2 x i
      by_cases ei : i = Z2
      · rw [ei, pk_us, pk_us]
      · rw [pk_un ei, pk_un ei]
        exact t3 i (by omega)
    · have c3 : Z2 = 120 := by omega
      rw [if_neg (fun q => c2 (hlt.mp q)), if_pos (heq.mpr c3), if_pos (heq.mpr c3), if_pos (heq.mpr c3), decide_eq_false (fun q => c2 (hlt.mp q))]
      exact ⟨rfl, ⟨Z2, hZ2, t1, t2, t3⟩, rr⟩
  · rw [if_neg c, if_neg c, if_neg c, if_neg c, if_neg c]
    exact ⟨rfl, ⟨Z2, hZ2, t1, t2, t3⟩, rr⟩
theorem z_clear (r : rAll sc u h ke m0 m1 tr m) : sc.size = m.len ∧ rAll (0, sc.bytes, sc.next, sc.tokAt, sc.tok, sc.val, sc.told) u h ke m0 m1 tr (m.text, 0, m.pl, m.loss, m.nich, m.st, m.book, m.undos, m.imgs, m.kept, m.heard, m.hm, m.trail, m.pos, m.wrong, m.items, m.rp, m.rl, m.sl, m.rn, m.read) := by
  obtain ⟨⟨Z, hZ, t1, t2, t3⟩, rr⟩ := r
  exact ⟨t1.trans t2.symm, ⟨0, by omega, rfl, rfl, fun i hi => absurd hi (Nat.not_lt_zero _)⟩, rr⟩
theorem nI_ne9 {n : Nat} (hn : n ≤ 1000) : ¬ nI n = -9 := fun g => by
  have := congrArg Int32.toInt g
  rw [nI_toInt (by omega)] at this
  have e9 : (-9 : Int32).toInt = -9 := by decide
  rw [e9] at this
  omega
theorem jBcK2 {x : Int32} (h : ∃ O : Nat, O < 256 ∧ x = nI O) : jBc x = bitsK x := by
  obtain ⟨O, hO, rfl⟩ := h
  exact jBcK ⟨O, hO⟩
theorem z_ticks (r : rAll sc u h ke m0 m1 tr m) {n k : Nat} (hn : h.mo.sayings = nI n) (hn8 : n ≤ 8) (hk : h.mo.noted = nI k) (hk10 : k ≤ 10) (x : Int32) : xTiR h n k x = yTiR m n k x ∧ rAll sc u (xTiS h n k x) ke m0 m1 tr (m.text, m.len, m.pl, m.loss, m.nich, yTiSt m x, yTiB m k x, yTiU m k x, m.imgs, m.kept, m.heard, m.hm, m.trail, m.pos, m.wrong, m.items, m.rp, m.rl, m.sl, m.rn, m.read) := by
  obtain ⟨-, n2, k2, N, -, -, ⟨n1, n3, n4⟩, ⟨k3, k1, k4⟩, ⟨p1, p2, p3⟩, -, q, -, hH⟩ := rAll_q r
  have e : n2 = n := (nI_eq (by omega) (by omega)).mp (n1.symm.trans hn)
  subst e
  have e : k2 = k := (nI_eq (by omega) (by omega)).mp (k1.symm.trans hk)
  subst e
  have ht : h.mo.tick = m.st 0 := q.2.2.2.2.2.2.2.2.2.1
  have hm : rMo n2 h.mo m.st := q.2.2.2.2.2.2.2.2
  have t0 := hm.2.2.2.2.1
  have t1 := hm.2.2.2.2.2.1
  unfold xTiR yTiR xTiS yTiSt yTiB yTiU
  rw [ht]
  by_cases c : wIn x 1 99 = true
  · rw [if_pos c, if_pos c, if_pos c, if_pos c, if_pos c, if_pos c]
    have cx := (wIn_iff _ _ _).mp c
    rw [pn_1, show (99 : Int32).toInt = 99 by decide] at cx
    rw [ht] at t0 t1
    have ha : (m.st 0 + x).toInt = (m.st 0).toInt + x.toInt := pn_add (by omega) (by omega)
    by_cases c2 : 9999 < m.st 0 + x
    · rw [if_pos c2, if_pos c2, if_pos c2, if_pos c2, if_pos c2, if_pos c2]
      exact ⟨rfl, r⟩
    · rw [if_neg c2, if_neg c2, if_neg c2, if_neg c2, if_neg c2, if_neg c2]
      rw [pn_lt, ha, show (9999 : Int32).toInt = 9999 by decide] at c2
      have hm' : rMo n2 (h.mo.tick + x, h.mo.sayings, h.mo.hushed, h.mo.noted, h.mo.frm, h.mo.speed, h.mo.way, h.mo.loud, h.mo.said, h.mo.deeds) (upd m.st 0 (m.st 0 + x)) := by
        obtain ⟨-, a1, a2, a3, a4, a5, hf, hg, hz⟩ := hm
        refine ⟨hn8, ?_, ?_, a3, ?_, ?_, ?_, ?_, hz⟩
        · show h.mo.tick + x = _
          rw [pk_us, a1]
        · show h.mo.sayings = _
          rw [pk_un (by omega)]
          exact a2
        · show 0 ≤ (h.mo.tick + x).toInt
          rw [a1, ha]
          omega
        · show (h.mo.tick + x).toInt ≤ 9999
          rw [a1, ha]
          omega
        · intro s hs
          rw [pk_un (by omega), pk_un (by omega), pk_un (by omega), pk_un (by omega), pk_un (by omega), pk_un (by omega)]
          exact hf s hs
        · intro s hs
          have hgs := hg s hs
          rw [pk_un (by omega)]
          refine ⟨hgs.1, hgs.2.1, hgs.2.2.1, hgs.2.2.2.1, hgs.2.2.2.2.1, hgs.2.2.2.2.2.1, ?_⟩
          show (h.mo.said s).toInt ≤ (h.mo.tick + x).toInt
          rw [a1, ha]
          have := hgs.2.2.2.2.2.2
          rw [a1] at this
          omega
      have hu : un1 (h.mo.tick + x, h.mo.sayings, h.mo.hushed, h.mo.noted, h.mo.frm, h.mo.speed, h.mo.way, h.mo.loud, h.mo.said, h.mo.deeds) x = h.mo := by
        unfold un1
        rw [if_neg (fun q => by rw [q, pn_0] at cx; omega), if_pos (by rw [pn_lt, pn_0]; omega)]
        show (h.mo.tick + x - x, h.mo.sayings, h.mo.hushed, h.mo.noted, h.mo.frm, h.mo.speed, h.mo.way, h.mo.loud, h.mo.said, h.mo.deeds) = h.mo
        rw [Int32.add_sub_cancel]
      have hF := rFu_note (d := x) (md := m) hm rfl rfl hk10 hk k4 hH hm' rfl rfl (by rw [hu]; exact ⟨rfl, rfl, fun _ _ => rfl, fun _ _ => ⟨rfl, rfl, rfl, rfl, rfl⟩⟩)
      have R : rAll sc u (h.pl, h.loss, h.nich, moGo h.mo k2 x, h.ats, h.str) ke m0 m1 tr (m.text, m.len, m.pl, m.loss, m.nich, upd m.st 0 (m.st 0 + x), dNb m k2, dNu m k2, m.imgs, m.kept, m.heard, m.hm, m.trail, m.pos, m.wrong, m.items, m.rp, m.rl, m.sl, m.rn, m.read) :=
        ⟨r.1, r.2.1, r.2.2.1, hF, r.2.2.2.2.1, r.2.2.2.2.2⟩
      have hs' : (moGo h.mo k2 x).sayings = nI n2 := by
        unfold moGo moNote
        split <;> exact hn
      obtain ⟨-, n5, -, N5, -, -, ⟨n6, n7, -⟩, -, -, -, q5, -, -⟩ := rAll_q R
      have e : n5 = n2 := (nI_eq (by omega) (by omega)).mp (n6.symm.trans hs')
      subst e
      refine ⟨?_, rAll_lis R rfl rfl rfl rfl⟩
      rw [q_last q5]
      exact jBcK2 (bits_nat _ n5 (by omega) |>.elim fun O h => ⟨O, Nat.lt_of_lt_of_le h.1 (Nat.pow_le_pow_right (n := 2) (by omega) hn8), h.2⟩)
  · rw [if_neg c, if_neg c, if_neg c, if_neg c, if_neg c, if_neg c]
    exact ⟨rfl, r⟩
theorem z_says (r : rAll sc u h ke m0 m1 tr m) {n k : Nat} (hn : h.mo.sayings = nI n) (hn8 : n ≤ 8) (hk : h.mo.noted = nI k) (hk10 : k ≤ 10) (p sp wa lo : Int32) : xSaR h n k p sp wa lo = ySaR m p sp wa lo ∧ rAll sc u (xSaS h n k p sp wa lo) ke m0 m1 tr (m.text, m.len, m.pl, m.loss, m.nich, ySaSt m n p sp wa lo, ySaB m k p sp wa lo, ySaU m k p sp wa lo, m.imgs, m.kept, m.heard, m.hm, m.trail, m.pos, m.wrong, m.items, m.rp, m.rl, m.sl, m.rn, m.read) := by
  obtain ⟨-, n2, k2, N, -, -, ⟨n1, n3, n4⟩, ⟨k3, k1, k4⟩, ⟨p1, p2, p3⟩, -, q, -, hH⟩ := rAll_q r
  have e : n2 = n := (nI_eq (by omega) (by omega)).mp (n1.symm.trans hn)
  subst e
  have e : k2 = k := (nI_eq (by omega) (by omega)).mp (k1.symm.trans hk)
  subst e
  have ht : h.mo.tick = m.st 0 := q.2.2.2.2.2.2.2.2.2.1
  have hm : rMo n2 h.mo m.st := q.2.2.2.2.2.2.2.2
  have hpl : h.pl = m.pl := q.1
  unfold xSaR ySaR xSaS ySaSt ySaB ySaU mayB
  rw [hpl]
  by_cases c1 : wIn p 0 (m.pl - 1) = true
  case neg =>
    rw [Bool.not_eq_true] at c1
    rw [c1]
    exact ⟨rfl, r⟩
  by_cases c2 : wIn sp 1 6 = true
  case neg =>
    rw [Bool.not_eq_true] at c2
    rw [c1, c2]
    exact ⟨rfl, r⟩
  by_cases c3 : wIn wa 0 1 = true
  case neg =>
    rw [Bool.not_eq_true] at c3
    rw [c1, c2, c3]
    exact ⟨rfl, r⟩
  by_cases c4 : wIn lo 1 30 = true
  case neg =>
    rw [Bool.not_eq_true] at c4
    rw [c1, c2, c3, c4]
    exact ⟨rfl, r⟩
  rw [c1, c2, c3, c4]
  simp only [Bool.and_self, if_true]
  have d2 := (wIn_iff _ _ _).mp c2
  have d4 := (wIn_iff _ _ _).mp c4
  rw [pn_1, show (6 : Int32).toInt = 6 by decide] at d2
  rw [pn_1, show (30 : Int32).toInt = 30 by decide] at d4
  by_cases c8 : n2 = 8
  · subst c8
    have e1 : ¬ h.mo.sayings < 8 := by rw [hn]; decide
    have e2 : m.st 1 = 8 := n4
    rw [decide_eq_false e1, if_pos e2, if_pos e2, if_pos e2, if_pos e2]
    unfold moAdd
    rw [if_neg e1]
    exact ⟨rfl, rAll_lis r hpl.symm rfl rfl rfl⟩
  · have hl : n2 < 8 := by omega
    have e1 : h.mo.sayings < 8 := by
      rw [hn]
      exact (nI_ltI (by omega) (by decide)).mpr (show n2 < 8 from hl)
    have e2 : ¬ m.st 1 = 8 := by
      rw [n4]
      exact fun g => c8 ((nI_eq (by omega) (by decide)).mp (show nI n2 = nI 8 from g))
    rw [decide_eq_true e1, if_neg e2, if_neg e2, if_neg e2, if_neg e2, if_pos rfl, if_pos rfl]
    have hst : ∀ x, sA7 m.st n2 p sp wa lo x = if x = 1 then nI (n2 + 1) else if x = 42 + n2 then 0 else if x = 34 + n2 then m.st 0 else if x = 26 + n2 then lo else if x = 18 + n2 then wa else if x = 10 + n2 then sp else if x = 2 + n2 then p else m.st x := by
      intro x
      unfold sA7 sA6 sA5 sA4 sA3 sA2 sA1
      have a1 : upd (upd (upd (upd (upd (upd m.st (2 + n2) p) (10 + n2) sp) (18 + n2) wa) (26 + n2) lo) (34 + n2) (upd (upd (upd (upd m.st (2 + n2) p) (10 + n2) sp) (18 + n2) wa) (26 + n2) lo 0)) (42 + n2) 0 1 = nI n2 := by
        rw [pk_un (by omega), pk_un (by omega), pk_un (by omega), pk_un (by omega), pk_un (by omega), pk_un (by omega)]
        exact n4
      rw [a1, pk_un (f := upd (upd (upd m.st (2 + n2) p) (10 + n2) sp) (18 + n2) wa) (by omega), pk_un (f := upd (upd m.st (2 + n2) p) (10 + n2) sp) (by omega), pk_un (f := upd m.st (2 + n2) p) (by omega), pk_un (f := m.st) (k := 2 + n2) (j := 0) (by omega), nI_1]
      rfl
    have hw : rMo (n2 + 1) (h.mo.tick, nI (n2 + 1), h.mo.hushed, h.mo.noted, upd h.mo.frm n2 p, upd h.mo.speed n2 sp, upd h.mo.way n2 wa, upd h.mo.loud n2 lo, upd h.mo.said n2 h.mo.tick, h.mo.deeds) (sA7 m.st n2 p sp wa lo) := by
      obtain ⟨-, a1, a2, a3, a4, a5, hf, hg, hz⟩ := hm
      refine ⟨by omega, ?_, ?_, rfl, a4, a5, ?_, ?_, ?_⟩
      · show h.mo.tick = _
        rw [hst, if_neg (by omega), if_neg (by omega), if_neg (by omega), if_neg (by omega), if_neg (by omega), if_neg (by omega), if_neg (by omega)]
        exact a1
      · show nI (n2 + 1) = _
        rw [hst, if_pos rfl]
      · intro s hs
        show upd h.mo.frm n2 p s = _ ∧ upd h.mo.speed n2 sp s = _ ∧ upd h.mo.way n2 wa s = _ ∧ upd h.mo.loud n2 lo s = _ ∧ upd h.mo.said n2 h.mo.tick s = _ ∧ bt h.mo.hushed s = _
        by_cases es : s = n2
        · subst es
          rw [pk_us, pk_us, pk_us, pk_us, pk_us]
          refine ⟨?_, ?_, ?_, ?_, ?_, ?_⟩
          · rw [hst, if_neg (by omega), if_neg (by omega), if_neg (by omega), if_neg (by omega), if_neg (by omega), if_neg (by omega), if_pos rfl]
          · rw [hst, if_neg (by omega), if_neg (by omega), if_neg (by omega), if_neg (by omega), if_neg (by omega), if_pos rfl]
          · rw [hst, if_neg (by omega), if_neg (by omega), if_neg (by omega), if_neg (by omega), if_pos rfl]
          · rw [hst, if_neg (by omega), if_neg (by omega), if_neg (by omega), if_pos rfl]
          · rw [hst, if_neg (by omega), if_neg (by omega), if_pos rfl]
            exact a1
          · rw [hst, if_neg (by omega), if_pos rfl, hz s (Nat.le_refl _) (by omega)]
            decide
        · rw [pk_un es, pk_un es, pk_un es, pk_un es, pk_un es]
          have b : ∀ y, (y = 2 ∨ y = 10 ∨ y = 18 ∨ y = 26 ∨ y = 34 ∨ y = 42) → sA7 m.st n2 p sp wa lo (y + s) = m.st (y + s) := by
            intro y hy
            rw [hst, if_neg (by omega), if_neg (by omega), if_neg (by omega), if_neg (by omega), if_neg (by omega), if_neg (by omega), if_neg (by omega)]
          rw [b 2 (by omega), b 10 (by omega), b 18 (by omega), b 26 (by omega), b 34 (by omega), b 42 (by omega)]
          exact hf s (by omega)
      · intro s hs
        show (_ ∨ _) ∧ 1 ≤ (upd h.mo.speed n2 sp s).toInt ∧ (upd h.mo.speed n2 sp s).toInt ≤ 6 ∧ 1 ≤ (upd h.mo.loud n2 lo s).toInt ∧ (upd h.mo.loud n2 lo s).toInt ≤ 30 ∧ 0 ≤ (upd h.mo.said n2 h.mo.tick s).toInt ∧ (upd h.mo.said n2 h.mo.tick s).toInt ≤ h.mo.tick.toInt
        by_cases es : s = n2
        · subst es
          rw [pk_us, pk_us, pk_us]
          refine ⟨Or.inl ?_, d2.1, d2.2, d4.1, d4.2, a4, Int.le_refl _⟩
          rw [hst, if_neg (by omega), if_pos rfl]
        · rw [pk_un es, pk_un es, pk_un es, hst, if_neg (by omega), if_neg (by omega), if_neg (by omega), if_neg (by omega), if_neg (by omega), if_neg (by omega), if_neg (by omega)]
          exact hg s (by omega)
      · intro s h1 h2
        exact hz s (by omega) h2
    have eA : moAdd h.mo n2 p sp wa lo = (h.mo.tick, nI (n2 + 1), h.mo.hushed, h.mo.noted, upd h.mo.frm n2 p, upd h.mo.speed n2 sp, upd h.mo.way n2 wa, upd h.mo.loud n2 lo, upd h.mo.said n2 h.mo.tick, h.mo.deeds) := by
      unfold moAdd
      rw [if_pos e1]
    have hF := rFu_note (d := 0) (md := m) hm rfl rfl hk10 hk k4 hH hw rfl rfl (by
      unfold un1
      rw [if_pos rfl]
      refine ⟨rfl, ?_, fun _ _ => rfl, fun s hs => ?_⟩
      · show nI (n2 + 1) - 1 = h.mo.sayings
        rw [nI_pred, hn]
      · show upd h.mo.frm n2 p s = _ ∧ upd h.mo.speed n2 sp s = _ ∧ upd h.mo.way n2 wa s = _ ∧ upd h.mo.loud n2 lo s = _ ∧ upd h.mo.said n2 h.mo.tick s = _
        rw [pk_un (by omega), pk_un (by omega), pk_un (by omega), pk_un (by omega), pk_un (by omega)]
        exact ⟨rfl, rfl, rfl, rfl, rfl⟩)
    rw [eA]
    refine ⟨?_, r.1, r.2.1, ?_, hF, r.2.2.2.2.1, r.2.2.2.2.2⟩
    · have e5 : (moNote (h.mo.tick, nI (n2 + 1), h.mo.hushed, h.mo.noted, upd h.mo.frm n2 p, upd h.mo.speed n2 sp, upd h.mo.way n2 wa, upd h.mo.loud n2 lo, upd h.mo.said n2 h.mo.tick, h.mo.deeds) k2 0).sayings = nI (n2 + 1) := by
        unfold moNote
        split <;> rfl
      rw [e5, nI_pred, n4]
    · rw [← hpl]
      have := r.2.2.1
      unfold rHl at this ⊢
      rw [← hpl] at this
      exact this
end
