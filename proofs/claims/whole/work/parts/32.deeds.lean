/-! ===== deeds and what may be undone ===== -/
def un1 (m : MoS) (d : Int32) : MoS := if d = 0 then (m.tick, m.sayings - 1, m.hushed, m.noted, m.frm, m.speed, m.way, m.loud, m.said, m.deeds) else if 0 < d then (m.tick - d, m.sayings, m.hushed, m.noted, m.frm, m.speed, m.way, m.loud, m.said, m.deeds) else (m.tick, m.sayings, m.hushed &&& (((1 : Int32) <<< (((-1) - d) &&& 31)) ^^^ (-1)), m.noted, m.frm, m.speed, m.way, m.loud, m.said, m.deeds)
/-- what may be undone: a level a row of the book -/
def rH : Nat → MoS → (Nat → Int32) → (Nat → Int32) → (Nat → Int32) → Prop
  | 0, m, _, f, _ => ∃ n, rMo n m f
  | k + 1, m, dd, f, bk => (∃ n, rMo n m f) ∧ rH k (un1 m (dd k)) dd (fun x => bk (50 * k + x)) bk
theorem rH_top : ∀ {k : Nat} {m : MoS} {dd f bk : Nat → Int32}, rH k m dd f bk → ∃ n, rMo n m f
  | 0, _, _, _, _, h => h
  | _ + 1, _, _, _, _, h => h.1
/-- the same, as far as n sayings go -/
def agM (n : Nat) (m w : MoS) : Prop := w.tick = m.tick ∧ w.sayings = m.sayings ∧ (∀ s, s < 8 → bt w.hushed s = bt m.hushed s) ∧ ∀ s, s < n → w.frm s = m.frm s ∧ w.speed s = m.speed s ∧ w.way s = m.way s ∧ w.loud s = m.loud s ∧ w.said s = m.said s
theorem rMo_ag {n : Nat} {m w : MoS} {f g : Nat → Int32} (h : rMo n m f) (a : agM n m w) (e : ∀ x, x < 50 → g x = f x) : rMo n w g := by
  obtain ⟨hn8, h1, h2, h3, h4, h5, hf, hg, hz⟩ := h
  obtain ⟨a1, a2, a3, a4⟩ := a
  refine ⟨hn8, ?_, ?_, ?_, ?_, ?_, ?_, ?_, ?_⟩
  · rw [a1, h1, e 0 (by omega)]
  · rw [a2, h2, e 1 (by omega)]
  · rw [a2, h3]
  · rw [a1]; exact h4
  · rw [a1]; exact h5
  · intro s hs
    obtain ⟨b1, b2, b3, b4, b5⟩ := a4 s hs
    rw [b1, b2, b3, b4, b5, a3 s (by omega), e _ (by omega), e _ (by omega), e _ (by omega), e _ (by omega), e _ (by omega), e _ (by omega)]
    exact hf s hs
  · intro s hs
    obtain ⟨b1, b2, b3, b4, b5⟩ := a4 s hs
    rw [b2, b4, b5, a1, e _ (by omega)]
    exact hg s hs
  · intro s h1 h2
    rw [a3 s h2]
    exact hz s h1 h2
theorem nI_m1 {n k : Nat} (hn : n ≤ 8) (hk : k ≤ 8) (h : nI n - 1 = nI k) : n = k + 1 := by
  have e := congrArg Int32.toInt h
  rw [pn_sub (by rw [nI_toInt (by omega), pn_1]; omega) (by rw [nI_toInt (by omega), pn_1]; omega), nI_toInt (by omega), nI_toInt (by omega), pn_1] at e
  omega
theorem agM_un {n k : Nat} {m w : MoS} {d : Int32} {f g : Nat → Int32} (h : rMo n m f) (h2 : rMo k (un1 m d) g) (a : agM n m w) : agM k (un1 m d) (un1 w d) := by
  obtain ⟨hn8, -, -, h3, -⟩ := h
  obtain ⟨hk8, -, -, k3, -⟩ := h2
  obtain ⟨a1, a2, a3, a4⟩ := a
  unfold un1 at k3 ⊢
  by_cases c : d = 0
  · rw [if_pos c] at k3 ⊢
    rw [if_pos c]
    have k3 : m.sayings - 1 = nI k := k3
    rw [h3] at k3
    have hnk := nI_m1 hn8 hk8 k3
    exact ⟨a1, by show w.sayings - 1 = m.sayings - 1; rw [a2], a3, fun s hs => a4 s (by omega)⟩
  · rw [if_neg c] at k3 ⊢
    rw [if_neg c]
    by_cases c2 : 0 < d
    · rw [if_pos c2] at k3 ⊢
      rw [if_pos c2]
      have k3 : m.sayings = nI k := k3
      have hnk : n = k := (nI_eq (by omega) (by omega)).mp (h3.symm.trans k3)
      exact ⟨by show w.tick - d = m.tick - d; rw [a1], a2, a3, fun s hs => a4 s (by omega)⟩
    · rw [if_neg c2] at k3 ⊢
      rw [if_neg c2]
      have k3 : m.sayings = nI k := k3
      have hnk : n = k := (nI_eq (by omega) (by omega)).mp (h3.symm.trans k3)
      refine ⟨a1, a2, fun s hs => ?_, fun s hs => a4 s (by omega)⟩
      show bt (w.hushed &&& _) s = bt (m.hushed &&& _) s
      rw [b_and, b_and, a3 s hs]
theorem rH_ag : ∀ {k n : Nat} {m w : MoS} {dd ee f g bk ck : Nat → Int32}, rMo n m f → rH k m dd f bk → agM n m w → (∀ i, i < k → ee i = dd i) → (∀ x, x < 50 → g x = f x) → (∀ x, x < 50 * k → ck x = bk x) → rH k w ee g ck
  | 0, n, m, w, dd, ee, f, g, bk, ck, h, _, a, _, e, _ => ⟨n, rMo_ag h a e⟩
  | k + 1, n, m, w, dd, ee, f, g, bk, ck, h, hH, a, ed, e, eb => by
    refine ⟨⟨n, rMo_ag h a e⟩, ?_⟩
    obtain ⟨-, hK⟩ := hH
    obtain ⟨n2, h2⟩ := rH_top hK
    rw [ed k (by omega)]
    exact rH_ag (k := k) h2 hK (agM_un h h2 a) (fun i hi => ed i (by omega)) (fun x hx => eb _ (by omega)) (fun x hx => eb x (by omega))
/-- a deed more -/
theorem rH_note {k n v : Nat} {m w : MoS} {dd ee f g bk ck : Nat → Int32} {d : Int32} (h : rMo n m f) (hH : rH k m dd f bk) (h2 : rMo v w g) (a : agM n m (un1 w d)) (e1 : ∀ i, i < k → ee i = dd i) (e2 : ee k = d) (e3 : ∀ x, x < 50 * k → ck x = bk x) (e4 : ∀ x, x < 50 → ck (50 * k + x) = f x) : rH (k + 1) w ee g ck := by
  refine ⟨⟨v, h2⟩, ?_⟩
  rw [e2]
  exact rH_ag h hH a e1 e4 e3
/-- the oldest is lost -/
theorem rH_shift : ∀ {k : Nat} {m : MoS} {dd f bk : Nat → Int32}, rH (k + 1) m dd f bk → rH k m (fun i => dd (i + 1)) f (fun x => bk (x + 50))
  | 0, _, _, _, _, h => h.1
  | k + 1, m, dd, f, bk, h => by
    refine ⟨h.1, ?_⟩
    have ih := rH_shift (k := k) h.2
    have e : (fun x => bk (50 * k + x + 50)) = (fun x => bk (50 * (k + 1) + x)) := funext fun x => congrArg bk (by omega)
    show rH k (un1 m (dd (k + 1))) (fun i => dd (i + 1)) (fun x => bk (50 * k + x + 50)) (fun x => bk (x + 50))
    rw [e]
    exact ih
/-- a moment with all that may be undone, and rows of the model's -/
def rFu (m : MoS) (f bk : Nat → Int32) (u : Int32) : Prop := ∃ k : Nat, k ≤ 10 ∧ m.noted = nI k ∧ u = nI k ∧ rH k m m.deeds f bk
theorem rFu_ag {m w : MoS} {f g bk ck : Nat → Int32} {u : Int32} (h : rFu m f bk u) (a : ∀ n, n ≤ 8 → agM n m w) (en : w.noted = m.noted) (ed : ∀ i, i < 10 → w.deeds i = m.deeds i) (e : ∀ x, x < 50 → g x = f x) (eb : ∀ x, x < 500 → ck x = bk x) : rFu w g ck u := by
  obtain ⟨k, hk, h1, h2, hH⟩ := h
  obtain ⟨n, hn⟩ := rH_top hH
  exact ⟨k, hk, en.trans h1, h2, rH_ag hn hH (a n hn.1) (fun i hi => ed i (by omega)) e (fun x hx => eb x (by omega))⟩
/-- noting a deed, on both sides -/
theorem rFu_note {n v k : Nat} {m w : MoS} {f g bk : Nat → Int32} {d : Int32} {md : MdS} (h : rMo n m f) (hf : f = md.st) (hbk : bk = md.book) (hk : k ≤ 10) (h1 : m.noted = nI k) (h2 : md.undos = nI k) (hH : rH k m m.deeds f bk) (hw : rMo v w g) (ew : w.noted = m.noted) (edd : w.deeds = m.deeds) (a : agM n m (un1 w d)) : rFu (moNote w k d) g (dNb md k) (dNu md k) := by
  subst hf hbk
  unfold moNote dNb dNu
  rw [ew, h1, h2, edd]
  by_cases c : k = 10
  · subst c
    rw [if_neg (by decide), if_pos (by decide), if_pos (by decide)]
    refine ⟨10, Nat.le_refl _, rfl, rfl, ?_⟩
    refine rH_note (k := 9) (d := d) h (rH_shift (k := 9) hH) (rMo_ag hw ⟨rfl, rfl, fun s _ => rfl, fun s _ => ⟨rfl, rfl, rfl, rfl, rfl⟩⟩ (fun x _ => rfl)) ?_ ?_ ?_ ?_ ?_
    · obtain ⟨a1, a2, a3, a4⟩ := a
      unfold un1 at a1 a2 a3 a4 ⊢
      by_cases c1 : d = 0
      · rw [if_pos c1] at a1 a2 a3 a4 ⊢
        exact ⟨a1, a2, a3, a4⟩
      · rw [if_neg c1] at a1 a2 a3 a4 ⊢
        by_cases c2 : 0 < d
        · rw [if_pos c2] at a1 a2 a3 a4 ⊢
          exact ⟨a1, a2, a3, a4⟩
        · rw [if_neg c2] at a1 a2 a3 a4 ⊢
          exact ⟨a1, a2, a3, a4⟩
    · intro i hi
      show upd (va_cpy m.deeds m.deeds 1 0 9) 9 d i = m.deeds (i + 1)
      rw [pk_un (by omega), pk_cpy_in (by omega) (by omega)]
      exact congrArg m.deeds (by omega)
    · show upd (va_cpy m.deeds m.deeds 1 0 9) 9 d 9 = d
      exact pk_us
    · intro x hx
      rw [pk_cpy_out (by omega), pk_cpy_in (by omega) (by omega)]
      exact congrArg md.book (by omega)
    · intro x hx
      rw [pk_cpy_in (by omega) (by omega)]
      exact congrArg md.st (by omega)
  · have c1 : nI k < 10 := (nI_ltI (by omega) (by decide)).mpr (show k < 10 by omega)
    have c2 : ¬ nI k = 10 := fun q => c ((nI_eq (by omega) (by decide)).mp (show nI k = nI 10 from q))
    rw [if_pos c1, if_neg c2, if_neg c2]
    refine ⟨k + 1, by omega, rfl, rfl, ?_⟩
    refine rH_note (k := k) (d := d) h hH (rMo_ag hw ⟨rfl, rfl, fun s _ => rfl, fun s _ => ⟨rfl, rfl, rfl, rfl, rfl⟩⟩ (fun x _ => rfl)) ?_ ?_ ?_ ?_ ?_
    · obtain ⟨a1, a2, a3, a4⟩ := a
      unfold un1 at a1 a2 a3 a4 ⊢
      by_cases c1 : d = 0
      · rw [if_pos c1] at a1 a2 a3 a4 ⊢
        exact ⟨a1, a2, a3, a4⟩
      · rw [if_neg c1] at a1 a2 a3 a4 ⊢
        by_cases c2 : 0 < d
        · rw [if_pos c2] at a1 a2 a3 a4 ⊢
          exact ⟨a1, a2, a3, a4⟩
        · rw [if_neg c2] at a1 a2 a3 a4 ⊢
          exact ⟨a1, a2, a3, a4⟩
    · intro i hi
      show upd m.deeds k d i = m.deeds i
      rw [pk_un (by omega)]
    · show upd m.deeds k d k = d
      exact pk_us
    · intro x hx
      rw [pk_cpy_out (by omega)]
    · intro x hx
      rw [pk_cpy_in (by omega) (by omega)]
      exact congrArg md.st (by omega)
/-! the whole relation -/
def rTx (sc : ScS) (m : MdS) : Prop := ∃ Z : Nat, Z ≤ 120 ∧ sc.size = nI Z ∧ m.len = nI Z ∧ ∀ i, i < Z → sc.bytes i = m.text i
def rHs (u : HeS) (m : MdS) : Prop := ∃ k : Nat, k ≤ 6 ∧ u.size = nI k ∧ m.hm = nI k ∧ ∀ i, i < k → u.ats i = m.heard (3 * i) ∧ u.beh i = m.heard (3 * i + 1) ∧ u.the i = m.heard (3 * i + 2)
def rHl (h : HaS) (m : MdS) : Prop := h.pl = m.pl ∧ h.loss = m.loss ∧ h.nich = m.nich ∧ (∃ N : Nat, 4 ≤ N ∧ N ≤ 24 ∧ m.pl = nI N) ∧ 1 ≤ m.loss.toInt ∧ m.loss.toInt ≤ 9 ∧ ∃ c : Nat, c < 2 ^ 24 ∧ m.nich = nI c
def rIm (ke : Nat → Int32) (m0 m1 : MoS) (m : MdS) : Prop := ke 0 = m.kept 0 ∧ ke 1 = m.kept 1 ∧ (ke 0 = 0 ∨ rFu m0 (fun x => m.imgs (1 + x)) (fun x => m.imgs (51 + x)) (m.imgs 0)) ∧ (ke 1 = 0 ∨ rFu m1 (fun x => m.imgs (552 + x)) (fun x => m.imgs (602 + x)) (m.imgs 551))
def rAll (sc : ScS) (u : HeS) (h : HaS) (ke : Nat → Int32) (m0 m1 : MoS) (tr : Int64) (m : MdS) : Prop := rTx sc m ∧ rHs u m ∧ rHl h m ∧ rFu h.mo m.st m.book m.undos ∧ rIm ke m0 m1 m ∧ tr = m.trail
/-- what a call needs to begin with -/
theorem rAll_q {sc : ScS} {u : HeS} {h : HaS} {ke : Nat → Int32} {m0 m1 : MoS} {tr : Int64} {m : MdS} (r : rAll sc u h ke m0 m1 tr m) : ∃ Z n k N c : Nat, (Z ≤ 120 ∧ sc.size = nI Z ∧ m.len = nI Z) ∧ (h.mo.sayings = nI n ∧ n ≤ 8 ∧ m.st 1 = nI n) ∧ (k ≤ 10 ∧ h.mo.noted = nI k ∧ m.undos = nI k) ∧ (h.pl = nI N ∧ N ≤ 24 ∧ m.pl = nI N) ∧ (c ≤ 6 ∧ u.size = nI c ∧ m.hm = nI c) ∧ rQ n N h m ∧ ¬ m.pl = 0 ∧ rH k h.mo h.mo.deeds m.st m.book := by
  obtain ⟨⟨Z, hZ, t1, t2, -⟩, ⟨c, hc, u1, u2, -⟩, ⟨p1, p2, p3, ⟨N, hN4, hN24, pN⟩, l1, l2, -⟩, ⟨k, hk, k1, k2, hH⟩, -, -⟩ := r
  obtain ⟨n, hn⟩ := rH_top hH
  have q : rQ n N h m := ⟨p1, p2, p3, hN4, hN24, pN, l1, l2, hn⟩
  exact ⟨Z, n, k, N, c, ⟨hZ, t1, t2⟩, ⟨hn.2.2.2.1, hn.1, hn.2.2.1.symm.trans hn.2.2.2.1⟩, ⟨hk, k1, k2⟩, ⟨p1.trans pN, hN24, pN⟩, ⟨hc, u1, u2⟩, q, (rQ_pl q).2.2.2.2, hH⟩
/-- a hall whose notes alone differ -/
theorem rAll_lis {sc : ScS} {u : HeS} {h h' : HaS} {ke : Nat → Int32} {m0 m1 : MoS} {tr : Int64} {m : MdS} (r : rAll sc u h ke m0 m1 tr m) (e1 : h'.pl = h.pl) (e2 : h'.loss = h.loss) (e3 : h'.nich = h.nich) (e4 : h'.mo = h.mo) : rAll sc u h' ke m0 m1 tr m := by
  obtain ⟨r1, r2, r3, r4, r5, r6⟩ := r
  refine ⟨r1, r2, ?_, ?_, r5, r6⟩
  · unfold rHl at r3 ⊢
    rw [e1, e2, e3]
    exact r3
  · rw [e4]
    exact r4
