/-! ===== call by call, on ===== -/
section
variable {sc : ScS} {u : HeS} {h : HaS} {ke : Nat → Int32} {m0 m1 : MoS} {tr : Int64} {m : MdS}
theorem m1_sub {s : Nat} (hs : s < 8) : (-1) - ((-1) - nI s) = nI s ∧ ¬ (-1) - nI s = 0 ∧ ¬ 0 < (-1) - nI s := (by decide +kernel : ∀ s : Fin 8, (-1) - ((-1) - nI s.val) = nI s.val ∧ ¬ (-1) - nI s.val = 0 ∧ ¬ 0 < (-1) - nI s.val) ⟨s, hs⟩
theorem z_hushes (r : rAll sc u h ke m0 m1 tr m) {n k : Nat} (hn : h.mo.sayings = nI n) (hn8 : n ≤ 8) (hk : h.mo.noted = nI k) (hk10 : k ≤ 10) (s : Int32) : xHuR h s = yHuR m s ∧ rAll sc u (xHuS h k s) ke m0 m1 tr (m.text, m.len, m.pl, m.loss, m.nich, yHuSt m s, yHuB m k s, yHuU m k s, m.imgs, m.kept, m.heard, m.hm, m.trail, m.pos, m.wrong, m.items, m.rp, m.rl, m.sl, m.rn, m.read) := by
  obtain ⟨-, n2, k2, N, -, -, ⟨n1, n3, n4⟩, ⟨k3, k1, k4⟩, ⟨p1, p2, p3⟩, -, q, -, hH⟩ := rAll_q r
  have e : n2 = n := (nI_eq (by omega) (by omega)).mp (n1.symm.trans hn)
  subst e
  have e : k2 = k := (nI_eq (by omega) (by omega)).mp (k1.symm.trans hk)
  subst e
  have hm : rMo n2 h.mo m.st := q.2.2.2.2.2.2.2.2
  have hsa : h.mo.sayings = m.st 1 := hm.2.2.1
  unfold xHuR yHuR xHuS yHuSt yHuB yHuU
  rw [← hsa]
  by_cases c : wIn s 0 (h.mo.sayings - 1) = true
  · repeat rw [if_pos c]
    obtain ⟨hs, es⟩ := wIn_nat hn hn8 c
    obtain ⟨t, hteq⟩ : ∃ t, t = s.toNatClampNeg := ⟨_, rfl⟩
    rw [← hteq] at hs es
    subst es
    rw [← hteq, q_st q hs]
    by_cases c2 : dSt m t 0 = 0
    · repeat rw [if_pos c2]
      exact ⟨rfl, r⟩
    · repeat rw [if_neg c2]
      refine ⟨rfl, r.1, r.2.1, r.2.2.1, ?_, r.2.2.2.2.1, r.2.2.2.2.2⟩
      obtain ⟨g1, g2, g3⟩ := m1_sub (s := t) (by omega)
      have hnb : bt h.mo.hushed t = false := by
        obtain ⟨-, -, -, -, -, -, hf, hg, -⟩ := hm
        rw [(hf t hs).2.2.2.2.2]
        refine decide_eq_false (fun e1 => c2 ?_)
        unfold dSt
        rw [if_pos e1]
        split <;> rfl
      have hw : rMo n2 (h.mo.tick, h.mo.sayings, h.mo.hushed ||| ((1 : Int32) <<< (nI t &&& 31)), h.mo.noted, h.mo.frm, h.mo.speed, h.mo.way, h.mo.loud, h.mo.said, h.mo.deeds) (upd m.st (42 + t) 1) := by
        obtain ⟨-, a1, a2, a3, a4, a5, hf, hg, hz⟩ := hm
        refine ⟨hn8, ?_, ?_, a3, a4, a5, ?_, ?_, ?_⟩
        · show h.mo.tick = _
          rw [pk_un (by omega)]
          exact a1
        · show h.mo.sayings = _
          rw [pk_un (by omega)]
          exact a2
        · intro y hy
          show h.mo.frm y = _ ∧ h.mo.speed y = _ ∧ h.mo.way y = _ ∧ h.mo.loud y = _ ∧ h.mo.said y = _ ∧ bt (h.mo.hushed ||| ((1 : Int32) <<< (nI t &&& 31))) y = _
          obtain ⟨f1, f2, f3, f4, f5, f6⟩ := hf y hy
          rw [pk_un (by omega), pk_un (by omega), pk_un (by omega), pk_un (by omega), pk_un (by omega), b_or, b_sh (by omega) (by omega)]
          refine ⟨f1, f2, f3, f4, f5, ?_⟩
          by_cases ey : y = t
          · subst ey
            rw [pk_us, decide_eq_true rfl, Bool.or_true]
            rfl
          · rw [pk_un (by omega), decide_eq_false (p := y = t) ey, Bool.or_false]
            exact f6
        · intro y hy
          have g := hg y hy
          refine ⟨?_, g.2⟩
          by_cases ey : y = t
          · subst ey
            rw [pk_us]
            exact Or.inr rfl
          · rw [pk_un (by omega)]
            exact g.1
        · intro y h1 h2
          show bt (h.mo.hushed ||| ((1 : Int32) <<< (nI t &&& 31))) y = false
          rw [b_or, b_sh (by omega) (by omega), hz y h1 h2, decide_eq_false (by omega)]
          rfl
      refine rFu_note (d := (-1) - nI t) (md := m) hm rfl rfl hk10 hk k4 hH hw rfl rfl ?_
      unfold un1
      rw [if_neg g2, if_neg g3, g1]
      refine ⟨rfl, rfl, fun y hy => ?_, fun _ _ => ⟨rfl, rfl, rfl, rfl, rfl⟩⟩
      show bt ((h.mo.hushed ||| ((1 : Int32) <<< (nI t &&& 31))) &&& (((1 : Int32) <<< (nI t &&& 31)) ^^^ (-1))) y = bt h.mo.hushed y
      rw [b_and, b_or, b_xor, b_sh (by omega) (by omega), b_m1 y (by omega)]
      by_cases ey : y = t
      · subst ey
        rw [hnb, decide_eq_true rfl]
        rfl
      · rw [decide_eq_false ey]
        simp
  · repeat rw [if_neg c]
    exact ⟨rfl, r⟩
theorem z_undo (r : rAll sc u h ke m0 m1 tr m) {k : Nat} (hk : h.mo.noted = nI k) (hk10 : k ≤ 10) : xUnR h k = (if m.undos = 0 then -2 else nI (k - 1)) ∧ rAll sc u (h.pl, h.loss, h.nich, moBack h.mo k, h.ats, h.str) ke m0 m1 tr (m.text, m.len, m.pl, m.loss, m.nich, yUnSt m k, m.book, yUnU m k, m.imgs, m.kept, m.heard, m.hm, m.trail, m.pos, m.wrong, m.items, m.rp, m.rl, m.sl, m.rn, m.read) := by
  obtain ⟨-, n2, k2, N, -, -, ⟨n1, n3, n4⟩, ⟨k3, k1, k4⟩, ⟨p1, p2, p3⟩, -, q, -, hH⟩ := rAll_q r
  have e : k2 = k := (nI_eq (by omega) (by omega)).mp (k1.symm.trans hk)
  subst e
  unfold xUnR yUnSt yUnU moBack
  rw [k4, hk]
  cases k2 with
  | zero =>
    rw [if_pos (show nI 0 = 0 from rfl), if_pos (show nI 0 = 0 from rfl), if_pos (show nI 0 = 0 from rfl), decide_eq_false (p := 0 < nI 0) (by decide), if_neg (show ¬ 0 < nI 0 by decide)]
    refine ⟨rfl, r.1, r.2.1, r.2.2.1, ?_, r.2.2.2.2.1, r.2.2.2.2.2⟩
    show rFu h.mo m.st m.book (nI 0)
    rw [← k4]
    exact r.2.2.2.1
  | succ k2 =>
    have c : ¬ nI (k2 + 1) = 0 := nI_ne0 (by omega) (by omega)
    have c1 : 0 < nI (k2 + 1) := (nI_ltI (a := 0) (by omega) (by omega)).mpr (by omega)
    rw [if_neg c, if_neg c, if_neg c, decide_eq_true c1, if_pos c1, if_pos rfl, Nat.add_sub_cancel]
    obtain ⟨-, hK⟩ := hH
    have hs : rFu (if h.mo.deeds k2 = 0 then (h.mo.tick, h.mo.sayings - 1, h.mo.hushed, nI k2, h.mo.frm, h.mo.speed, h.mo.way, h.mo.loud, h.mo.said, h.mo.deeds) else if 0 < h.mo.deeds k2 then (h.mo.tick - h.mo.deeds k2, h.mo.sayings, h.mo.hushed, nI k2, h.mo.frm, h.mo.speed, h.mo.way, h.mo.loud, h.mo.said, h.mo.deeds) else (h.mo.tick, h.mo.sayings, h.mo.hushed &&& (((1 : Int32) <<< (((-1) - h.mo.deeds k2) &&& 31)) ^^^ (-1)), nI k2, h.mo.frm, h.mo.speed, h.mo.way, h.mo.loud, h.mo.said, h.mo.deeds)) (va_cpy m.book m.st (50 * k2) 0 50) m.book (nI k2) := by
      obtain ⟨n5, h5⟩ := rH_top hK
      refine ⟨k2, by omega, ?_, rfl, ?_⟩
      · split
        · rfl
        · split <;> rfl
      · refine rH_ag h5 hK ?_ ?_ (fun x hx => ?_) (fun x _ => rfl)
        · unfold un1
          split
          · exact ⟨rfl, rfl, fun _ _ => rfl, fun _ _ => ⟨rfl, rfl, rfl, rfl, rfl⟩⟩
          · split
            · exact ⟨rfl, rfl, fun _ _ => rfl, fun _ _ => ⟨rfl, rfl, rfl, rfl, rfl⟩⟩
            · exact ⟨rfl, rfl, fun _ _ => rfl, fun _ _ => ⟨rfl, rfl, rfl, rfl, rfl⟩⟩
        · intro i hi
          split
          · rfl
          · split <;> rfl
        · rw [pk_cpy_in (by omega) (by omega)]
          exact congrArg m.book (by omega)
    refine ⟨?_, r.1, r.2.1, r.2.2.1, hs, r.2.2.2.2.1, r.2.2.2.2.2⟩
    split
    · rfl
    · split <;> rfl
theorem z_hears (r : rAll sc u h ke m0 m1 tr m) {k : Nat} (hk : u.size = nI k) (hk6 : k ≤ 6) (p nn th : Int32) : xHeR h u k p nn th = yHeR m k p nn th ∧ rAll sc (xHeS h u k p nn th) h ke m0 m1 tr (m.text, m.len, m.pl, m.loss, m.nich, m.st, m.book, m.undos, m.imgs, m.kept, yHeH m k p nn th, yHeM m k p nn th, m.trail, m.pos, m.wrong, m.items, m.rp, m.rl, m.sl, m.rn, m.read) := by
  have hpl : h.pl = m.pl := r.2.2.1.1
  obtain ⟨r1, ⟨c, hc, u1, u2, u3⟩, rr⟩ := id r
  have e : c = k := (nI_eq (by omega) (by omega)).mp (u1.symm.trans hk)
  subst e
  unfold xHeR yHeR xHeS yHeH yHeM
  rw [hpl]
  by_cases c1 : wIn p 0 (m.pl - 1) = true
  case neg =>
    rw [Bool.not_eq_true] at c1
    rw [c1]
    exact ⟨rfl, r⟩
  by_cases c2 : wIn nn 0 99 = true
  case neg =>
    rw [Bool.not_eq_true] at c2
    rw [c1, c2]
    exact ⟨rfl, r⟩
  by_cases c3 : wIn th 0 1 = true
  case neg =>
    rw [Bool.not_eq_true] at c3
    rw [c1, c2, c3]
    exact ⟨rfl, r⟩
  rw [c1, c2, c3]
  simp only [if_true]
  unfold heAdd
  by_cases c4 : c = 6
  · subst c4
    have e1 : ¬ u.size < 6 := by rw [u1]; decide
    have e2 : m.hm = 6 := u2
    rw [decide_eq_false e1, if_neg e1, if_pos e2, if_pos e2, if_pos e2]
    exact ⟨rfl, r⟩
  · have e1 : u.size < 6 := by
      rw [u1]
      exact (nI_ltI (by omega) (by decide)).mpr (show c < 6 by omega)
    have e2 : ¬ m.hm = 6 := by
      rw [u2]
      exact fun g => c4 ((nI_eq (by omega) (by decide)).mp (show nI c = nI 6 from g))
    rw [decide_eq_true e1, if_pos e1, if_neg e2, if_neg e2, if_neg e2]
    refine ⟨rfl, r1, ⟨c + 1, by omega, rfl, rfl, fun i hi => ?_⟩, rr⟩
    show upd u.ats c p i = upd (upd (upd m.heard (3 * c) p) (3 * c + 1) nn) (3 * c + 2) th (3 * i) ∧ upd u.beh c nn i = upd (upd (upd m.heard (3 * c) p) (3 * c + 1) nn) (3 * c + 2) th (3 * i + 1) ∧ upd u.the c th i = upd (upd (upd m.heard (3 * c) p) (3 * c + 1) nn) (3 * c + 2) th (3 * i + 2)
    by_cases ei : i = c
    · subst ei
      rw [pk_us, pk_us, pk_us, pk_us, pk_un (by omega), pk_un (by omega), pk_us, pk_un (by omega), pk_us]
      exact ⟨rfl, rfl, rfl⟩
    · rw [pk_un ei, pk_un ei, pk_un ei, pk_un (by omega), pk_un (by omega), pk_un (by omega), pk_un (by omega), pk_un (by omega), pk_un (by omega), pk_un (by omega), pk_un (by omega), pk_un (by omega)]
      exact u3 i (by omega)
theorem z_forget (r : rAll sc u h ke m0 m1 tr m) : u.size = m.hm ∧ rAll sc (0, u.ats, u.beh, u.the) h ke m0 m1 tr (m.text, m.len, m.pl, m.loss, m.nich, m.st, m.book, m.undos, m.imgs, m.kept, m.heard, 0, m.trail, m.pos, m.wrong, m.items, m.rp, m.rl, m.sl, m.rn, m.read) := by
  obtain ⟨r1, ⟨c, hc, u1, u2, u3⟩, rr⟩ := id r
  exact ⟨u1.trans u2.symm, r1, ⟨0, by omega, rfl, rfl, fun i hi => absurd hi (Nat.not_lt_zero _)⟩, rr⟩
theorem kd_cases {kd : Int32} (h : wIn kd 0 5 = true) : kd = 0 ∨ kd = 1 ∨ kd = 2 ∨ kd = 3 ∨ kd = 4 ∨ kd = 5 := by
  obtain ⟨h1, h2⟩ := wIn_nn (k := 5) (by decide) h
  rcases (show kd.toNatClampNeg = 0 ∨ kd.toNatClampNeg = 1 ∨ kd.toNatClampNeg = 2 ∨ kd.toNatClampNeg = 3 ∨ kd.toNatClampNeg = 4 ∨ kd.toNatClampNeg = 5 by omega) with q | q | q | q | q | q
  · exact Or.inl (by rw [h2, q]; rfl)
  · exact Or.inr (Or.inl (by rw [h2, q]; rfl))
  · exact Or.inr (Or.inr (Or.inl (by rw [h2, q]; rfl)))
  · exact Or.inr (Or.inr (Or.inr (Or.inl (by rw [h2, q]; rfl))))
  · exact Or.inr (Or.inr (Or.inr (Or.inr (Or.inl (by rw [h2, q]; rfl)))))
  · exact Or.inr (Or.inr (Or.inr (Or.inr (Or.inr (by rw [h2, q]; rfl)))))
theorem kd_not {kd : Int32} (h : wIn kd 0 5 = false) : ¬ kd = 0 ∧ ¬ kd = 1 ∧ ¬ kd = 2 ∧ ¬ kd = 3 ∧ ¬ kd = 4 ∧ ¬ kd = 5 := by
  refine ⟨?_, ?_, ?_, ?_, ?_, ?_⟩ <;> (intro e; rw [e] at h; exact absurd h (by decide))
theorem z_mark (r : rAll sc u h ke m0 m1 tr m) (kd s : Int32) : xMaR h kd s = yMaR m kd s ∧ rAll sc u h ke m0 m1 (xMaT h tr kd s) (m.text, m.len, m.pl, m.loss, m.nich, m.st, m.book, m.undos, m.imgs, m.kept, m.heard, m.hm, yMaT m kd s, m.pos, m.wrong, m.items, m.rp, m.rl, m.sl, m.rn, m.read) := by
  obtain ⟨-, n, k2, N, -, -, ⟨n1, n3, n4⟩, ⟨k3, k1, k4⟩, ⟨p1, p2, p3⟩, -, q, -, hH⟩ := rAll_q r
  have hm : rMo n h.mo m.st := q.2.2.2.2.2.2.2.2
  have hsa : h.mo.sayings = m.st 1 := hm.2.2.1
  have htr : tr = m.trail := r.2.2.2.2.2
  have key : xMaR h kd s = yMaR m kd s ∧ xMaT h tr kd s = yMaT m kd s := by
    unfold xMaR yMaR xMaT yMaT
    rw [← hsa, htr]
    cases c0 : wIn kd 0 5
    · obtain ⟨d0, d1, d2, d3, d4, d5⟩ := kd_not c0
      by_cases c : wIn s 0 (h.mo.sayings - 1) = true
      · repeat rw [if_pos c]
        repeat rw [if_neg d0]
        repeat rw [if_neg d1]
        repeat rw [if_neg d2]
        repeat rw [if_neg d3]
        repeat rw [if_neg d4]
        repeat rw [if_neg d5]
        exact ⟨rfl, rfl⟩
      · repeat rw [if_neg c]
        exact ⟨rfl, rfl⟩
    · rw [if_pos rfl, if_pos rfl]
      by_cases c : wIn s 0 (h.mo.sayings - 1) = true
      · rw [if_pos c, if_pos c, if_pos c, if_pos c]
        obtain ⟨hs, es⟩ := wIn_nat n1 n3 c
        obtain ⟨f1, f2, f3, f4, f5, f6⟩ := hm.2.2.2.2.2.2.1 s.toNatClampNeg hs
        unfold mk5 mk4 mk3 mk2 mk1 mk0
        rw [f4, f2, q_st q hs, q_pl q hs, ← es]
        have a1 : ∀ a b c : Int64, a + b + c = a + c + b := fun a b c => by rw [Int64.add_assoc, Int64.add_comm b, ← Int64.add_assoc]
        rcases kd_cases c0 with e | e | e | e | e | e
        · subst e
          exact ⟨rfl, rfl⟩
        · subst e
          exact ⟨rfl, a1 _ _ _⟩
        · subst e
          exact ⟨rfl, a1 _ _ _⟩
        · subst e
          refine ⟨?_, ?_⟩
          · show (m.st (26 + s.toNatClampNeg) + dSt m s.toNatClampNeg 0) * 2 = 2 * (m.st (26 + s.toNatClampNeg) + dSt m s.toNatClampNeg 0)
            exact Int32.mul_comm _ _
          · show m.trail + 1000 + 10 + 1 = m.trail + 1 + 1010
            rw [Int64.add_assoc m.trail 1000 10, a1]
            rfl
        · subst e
          refine ⟨rfl, ?_⟩
          show m.trail + 10000 + 100 + 1 = m.trail + 1 + 10100
          rw [Int64.add_assoc m.trail 10000 100, a1]
          rfl
        · subst e
          exact ⟨rfl, a1 _ _ _⟩
      · rw [if_neg c, if_neg c, if_neg c, if_neg c]
        exact ⟨rfl, rfl⟩
  exact ⟨key.1, r.1, r.2.1, r.2.2.1, r.2.2.2.1, r.2.2.2.2.1, key.2⟩
theorem agM_cpy (m o : MoS) {n : Nat} (hn : n ≤ 8) : agM n o (moCpy m o) := by
  refine ⟨rfl, rfl, fun _ _ => rfl, fun s hs => ?_⟩
  show va_cpy o.frm m.frm 0 0 8 s = _ ∧ va_cpy o.speed m.speed 0 0 8 s = _ ∧ va_cpy o.way m.way 0 0 8 s = _ ∧ va_cpy o.loud m.loud 0 0 8 s = _ ∧ va_cpy o.said m.said 0 0 8 s = _
  rw [pk_cpy_in (by omega) (by omega), pk_cpy_in (by omega) (by omega), pk_cpy_in (by omega) (by omega), pk_cpy_in (by omega) (by omega), pk_cpy_in (by omega) (by omega), show 0 + (s - 0) = s by omega]
  exact ⟨rfl, rfl, rfl, rfl, rfl⟩
theorem deeds_cpy (m o : MoS) {i : Nat} (hi : i < 10) : (moCpy m o).deeds i = o.deeds i := by
  show va_cpy o.deeds m.deeds 0 0 10 i = _
  rw [pk_cpy_in (by omega) (by omega), show 0 + (i - 0) = i by omega]
theorem im_cases {im : Int32} (h : wIn im 0 1 = true) : im = 0 ∨ im = 1 := by
  obtain ⟨h1, h2⟩ := wIn_nn (k := 1) (by decide) h
  rcases (show im.toNatClampNeg = 0 ∨ im.toNatClampNeg = 1 by omega) with q | q
  · exact Or.inl (by rw [h2, q]; rfl)
  · exact Or.inr (by rw [h2, q]; rfl)
theorem cl_0 : (0 : Int32).toNatClampNeg = 0 := by decide
theorem cl_1 : (1 : Int32).toNatClampNeg = 1 := by decide
set_option maxRecDepth 20000 in
theorem z_keep (r : rAll sc u h ke m0 m1 tr m) (im : Int32) : (if wIn im 0 1 then h.mo.tick else -1) = (if wIn im 0 1 then m.st 0 else -1) ∧ rAll sc u h (xKeK ke im) (xKe0 m0 h im) (xKe1 m1 h im) tr (m.text, m.len, m.pl, m.loss, m.nich, m.st, m.book, m.undos, yKeI m im, yKeK m im, m.heard, m.hm, m.trail, m.pos, m.wrong, m.items, m.rp, m.rl, m.sl, m.rn, m.read) := by
  obtain ⟨-, n, k2, N, -, -, ⟨n1, n3, n4⟩, ⟨k3, k1, k4⟩, ⟨p1, p2, p3⟩, -, q, -, hH⟩ := rAll_q r
  have hm : rMo n h.mo m.st := q.2.2.2.2.2.2.2.2
  unfold xKeK xKe0 xKe1 yKeI yKeK
  by_cases c : wIn im 0 1 = true
  · repeat rw [if_pos c]
    obtain ⟨i1, i2, i3, i4⟩ := r.2.2.2.2.1
    rcases im_cases c with e | e
    · subst e
      repeat rw [if_pos (show (0 : Int32) = 0 from rfl)]
      rw [cl_0]
      refine ⟨hm.2.1, r.1, r.2.1, r.2.2.1, r.2.2.2.1, ⟨?_, ?_, Or.inr ?_, ?_⟩, r.2.2.2.2.2⟩
      · show upd ke 0 1 0 = upd m.kept 0 1 0
        rw [pk_us, pk_us]
      · show upd ke 0 1 1 = upd m.kept 0 1 1
        rw [pk_un (by omega), pk_un (by omega)]
        exact i2
      · have e0 : va_cpy m.book (va_cpy m.st (upd m.imgs (551 * 0) m.undos) 0 (551 * 0 + 1) 50) 0 (551 * 0 + 1 + 50) 500 0 = m.undos := by
          rw [pk_cpy_out (by omega), pk_cpy_out (by omega)]
          exact pk_us
        show rFu (moCpy m0 h.mo) _ _ (va_cpy m.book (va_cpy m.st (upd m.imgs (551 * 0) m.undos) 0 (551 * 0 + 1) 50) 0 (551 * 0 + 1 + 50) 500 0)
        rw [e0]
        refine rFu_ag r.2.2.2.1 (fun n hn => agM_cpy m0 h.mo hn) rfl (fun i hi => deeds_cpy m0 h.mo hi) (fun x hx => ?_) (fun x hx => ?_)
        · show va_cpy m.book (va_cpy m.st (upd m.imgs (551 * 0) m.undos) 0 (551 * 0 + 1) 50) 0 (551 * 0 + 1 + 50) 500 (1 + x) = _
          rw [pk_cpy_out (by omega), pk_cpy_in (by omega) (by omega)]
          exact congrArg m.st (by omega)
        · show va_cpy m.book (va_cpy m.st (upd m.imgs (551 * 0) m.undos) 0 (551 * 0 + 1) 50) 0 (551 * 0 + 1 + 50) 500 (51 + x) = _
          rw [pk_cpy_in (by omega) (by omega)]
          exact congrArg m.book (by omega)
      · have eo : ∀ y, 551 ≤ y → va_cpy m.book (va_cpy m.st (upd m.imgs (551 * 0) m.undos) 0 (551 * 0 + 1) 50) 0 (551 * 0 + 1 + 50) 500 y = m.imgs y := by
          intro y hy
          rw [pk_cpy_out (by omega), pk_cpy_out (by omega), pk_un (by omega)]
        show upd ke 0 1 1 = 0 ∨ rFu m1 (fun x => va_cpy m.book (va_cpy m.st (upd m.imgs (551 * 0) m.undos) 0 (551 * 0 + 1) 50) 0 (551 * 0 + 1 + 50) 500 (552 + x)) (fun x => va_cpy m.book (va_cpy m.st (upd m.imgs (551 * 0) m.undos) 0 (551 * 0 + 1) 50) 0 (551 * 0 + 1 + 50) 500 (602 + x)) (va_cpy m.book (va_cpy m.st (upd m.imgs (551 * 0) m.undos) 0 (551 * 0 + 1) 50) 0 (551 * 0 + 1 + 50) 500 551)
        rw [pk_un (by omega), eo 551 (by omega), funext (fun x => eo (552 + x) (by omega)), funext (fun x => eo (602 + x) (by omega))]
        exact i4
    · subst e
      repeat rw [if_neg (show ¬ (1 : Int32) = 0 by decide)]
      rw [cl_1]
      refine ⟨hm.2.1, r.1, r.2.1, r.2.2.1, r.2.2.2.1, ⟨?_, ?_, ?_, Or.inr ?_⟩, r.2.2.2.2.2⟩
      · show upd ke 1 1 0 = upd m.kept 1 1 0
        rw [pk_un (by omega), pk_un (by omega)]
        exact i1
      · show upd ke 1 1 1 = upd m.kept 1 1 1
        rw [pk_us, pk_us]
      · have eo : ∀ y, y < 551 → va_cpy m.book (va_cpy m.st (upd m.imgs (551 * 1) m.undos) 0 (551 * 1 + 1) 50) 0 (551 * 1 + 1 + 50) 500 y = m.imgs y := by
          intro y hy
          rw [pk_cpy_out (by omega), pk_cpy_out (by omega), pk_un (by omega)]
        show upd ke 1 1 0 = 0 ∨ rFu m0 (fun x => va_cpy m.book (va_cpy m.st (upd m.imgs (551 * 1) m.undos) 0 (551 * 1 + 1) 50) 0 (551 * 1 + 1 + 50) 500 (1 + x)) (fun x => va_cpy m.book (va_cpy m.st (upd m.imgs (551 * 1) m.undos) 0 (551 * 1 + 1) 50) 0 (551 * 1 + 1 + 50) 500 (51 + x)) (va_cpy m.book (va_cpy m.st (upd m.imgs (551 * 1) m.undos) 0 (551 * 1 + 1) 50) 0 (551 * 1 + 1 + 50) 500 0)
        rw [pk_un (by omega), eo 0 (by omega)]
        rcases i3 with z | z
        · exact Or.inl z
        · exact Or.inr (rFu_ag z (fun n hn => ⟨rfl, rfl, fun _ _ => rfl, fun _ _ => ⟨rfl, rfl, rfl, rfl, rfl⟩⟩) rfl (fun _ _ => rfl) (fun x hx => eo _ (by omega)) (fun x hx => eo _ (by omega)))
      · have e0 : va_cpy m.book (va_cpy m.st (upd m.imgs (551 * 1) m.undos) 0 (551 * 1 + 1) 50) 0 (551 * 1 + 1 + 50) 500 551 = m.undos := by
          rw [pk_cpy_out (by omega), pk_cpy_out (by omega)]
          exact pk_us
        show rFu (moCpy m1 h.mo) _ _ (va_cpy m.book (va_cpy m.st (upd m.imgs (551 * 1) m.undos) 0 (551 * 1 + 1) 50) 0 (551 * 1 + 1 + 50) 500 551)
        rw [e0]
        refine rFu_ag r.2.2.2.1 (fun n hn => agM_cpy m1 h.mo hn) rfl (fun i hi => deeds_cpy m1 h.mo hi) (fun x hx => ?_) (fun x hx => ?_)
        · show va_cpy m.book (va_cpy m.st (upd m.imgs (551 * 1) m.undos) 0 (551 * 1 + 1) 50) 0 (551 * 1 + 1 + 50) 500 (552 + x) = _
          rw [pk_cpy_out (by omega), pk_cpy_in (by omega) (by omega)]
          exact congrArg m.st (by omega)
        · show va_cpy m.book (va_cpy m.st (upd m.imgs (551 * 1) m.undos) 0 (551 * 1 + 1) 50) 0 (551 * 1 + 1 + 50) 500 (602 + x) = _
          rw [pk_cpy_in (by omega) (by omega)]
          exact congrArg m.book (by omega)
  · repeat rw [if_neg c]
    exact ⟨rfl, r⟩
theorem z_back (r : rAll sc u h ke m0 m1 tr m) (im : Int32) : xBaR h m0 m1 ke im = yBaR m im ∧ rAll sc u (xBaS h m0 m1 ke im) ke m0 m1 tr (m.text, m.len, m.pl, m.loss, m.nich, yBaSt m im, yBaB m im, yBaU m im, m.imgs, m.kept, m.heard, m.hm, m.trail, m.pos, m.wrong, m.items, m.rp, m.rl, m.sl, m.rn, m.read) := by
  unfold xBaR yBaR xBaS yBaSt yBaB yBaU
  by_cases c : wIn im 0 1 = true
  · repeat rw [if_pos c]
    obtain ⟨i1, i2, i3, i4⟩ := id r.2.2.2.2.1
    rcases im_cases c with e | e
    · subst e
      rw [if_pos rfl, if_pos rfl, cl_0, ← i1]
      by_cases c2 : ke 0 = 0
      · repeat rw [if_pos c2]
        exact ⟨rfl, r⟩
      · repeat rw [if_neg c2]
        rcases i3 with z | z
        · exact absurd z c2
        · have z2 : rFu (moCpy h.mo m0) (va_cpy m.imgs m.st (551 * 0 + 1) 0 50) (va_cpy m.imgs m.book (551 * 0 + 1 + 50) 0 500) (m.imgs (551 * 0)) := by
            refine rFu_ag z (fun n hn => agM_cpy h.mo m0 hn) rfl (fun i hi => deeds_cpy h.mo m0 hi) (fun x hx => ?_) (fun x hx => ?_)
            · rw [pk_cpy_in (by omega) (by omega)]
              exact congrArg m.imgs (by omega)
            · rw [pk_cpy_in (by omega) (by omega)]
              exact congrArg m.imgs (by omega)
          refine ⟨?_, r.1, r.2.1, r.2.2.1, z2, r.2.2.2.2.1, r.2.2.2.2.2⟩
          obtain ⟨k, -, -, -, hH⟩ := z2
          obtain ⟨n, hn⟩ := rH_top hH
          exact hn.2.1
    · subst e
      repeat rw [if_neg (show ¬ (1 : Int32) = 0 by decide)]
      rw [cl_1, ← i2]
      by_cases c2 : ke 1 = 0
      · repeat rw [if_pos c2]
        exact ⟨rfl, r⟩
      · repeat rw [if_neg c2]
        rcases i4 with z | z
        · exact absurd z c2
        · have z2 : rFu (moCpy h.mo m1) (va_cpy m.imgs m.st (551 * 1 + 1) 0 50) (va_cpy m.imgs m.book (551 * 1 + 1 + 50) 0 500) (m.imgs (551 * 1)) := by
            refine rFu_ag z (fun n hn => agM_cpy h.mo m1 hn) rfl (fun i hi => deeds_cpy h.mo m1 hi) (fun x hx => ?_) (fun x hx => ?_)
            · rw [pk_cpy_in (by omega) (by omega)]
              exact congrArg m.imgs (by omega)
            · rw [pk_cpy_in (by omega) (by omega)]
              exact congrArg m.imgs (by omega)
          refine ⟨?_, r.1, r.2.1, r.2.2.1, z2, r.2.2.2.2.1, r.2.2.2.2.2⟩
          obtain ⟨k, -, -, -, hH⟩ := z2
          obtain ⟨n, hn⟩ := rH_top hH
          exact hn.2.1
  · repeat rw [if_neg c]
    exact ⟨rfl, r⟩
end
