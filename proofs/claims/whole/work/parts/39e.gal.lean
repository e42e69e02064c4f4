theorem ini_f (m : MdS) : (dIni m).wrong = -1 ∧ (dIni m).sl = 0 ∧ (dIni m).items = 0 ∧ (dIni m).rp = 12 ∧ (dIni m).rl = 1 ∧ (dIni m).rn = 0 ∧ (dIni m).pos = 0 ∧ (dIni m).read = lsF (fun _ => 0) (dIn0 m).read 50 := ⟨rfl, rfl, rfl, rfl, rfl, rfl, rfl, rfl⟩
theorem kM_tx {t m : MdS} (h : kM t = kM m) : t.text = m.text ∧ t.len = m.len := by
  unfold kM at h
  injection h with a b
  injection b with c d
  exact ⟨a, c⟩
theorem kM_all {t m : MdS} (h : kM t = kM m) : t.text = m.text ∧ t.len = m.len ∧ t.pl = m.pl ∧ t.loss = m.loss ∧ t.nich = m.nich ∧ t.st = m.st ∧ t.book = m.book ∧ t.undos = m.undos ∧ t.imgs = m.imgs ∧ t.kept = m.kept ∧ t.heard = m.heard ∧ t.hm = m.hm ∧ t.trail = m.trail := by
  unfold kM at h
  injection h with a1 h
  injection h with a2 h
  injection h with a3 h
  injection h with a4 h
  injection h with a5 h
  injection h with a6 h
  injection h with a7 h
  injection h with a8 h
  injection h with a9 h
  injection h with a10 h
  injection h with a11 h
  injection h with a12 h
  exact ⟨a1, a2, a3, a4, a5, a6, a7, a8, a9, a10, a11, a12, h⟩
theorem rd_iniT {sc : ScS} {g : HaS} {m : MdS} {Z : Nat} (hZ : Z ≤ 120) (h1 : sc.size = nI Z) (h2 : m.len = nI Z) (h3 : ∀ i, i < Z → sc.bytes i = m.text i) (t : MdS) (F : Nat → Int32) (f1 : t.wrong = -1) (f2 : t.sl = 0) (f3 : t.items = 0) (f4 : t.rp = 12) (f5 : t.rl = 1) (f6 : t.rn = 0) (f7 : t.pos = 0) (f8 : t.read = lsF (fun _ => 0) F 50) (k1 : t.text = m.text) (k2 : t.len = m.len) : rdR m.text Z 0 (scStep (sc.size, sc.bytes, 0, sc.tokAt, sc.tok, sc.val, 0)) (hEmp g) (dSkp t) := by
  have hp : t.pos = nI 0 := f7
  have hz : t.len = nI Z := k2.trans h2
  obtain ⟨hT, ht⟩ := c_step (B := m.text) (s := (sc.size, sc.bytes, 0, sc.tokAt, sc.tok, sc.val, 0)) hZ (Nat.zero_le Z) h1 h3 rfl
  have hQ := stQ_le (B := m.text) (Nat.zero_le Z)
  rw [dSkp_eq hZ (Nat.zero_le Z) hz hp, k1]
  obtain ⟨v, hv⟩ : ∃ v, v = nI (stQ m.text Z 0) := ⟨_, rfl⟩
  rw [← hv]
  have r0 : ∀ x, x < 50 → t.read x = 0 := fun x hx => by rw [f8, lsF_in hx]
  refine ⟨_, hQ.2, hT, k1, hz, hv, ?_, ?_, f3, by omega, rdC_pos ?_⟩
  · show t.wrong < 0
    rw [f1]
    decide
  · rw [ht]
    exact f2.symm
  · refine ⟨f4.symm, f5.symm, f6.symm, ⟨12, by omega, by omega, f4⟩, ?_, ?_, ⟨0, by decide, f6⟩, rfl, rfl, rfl, fun s hs => ⟨r0 _ (by omega), r0 _ (by omega)⟩, 0, ?_⟩
    · rw [f5]
      decide
    · rw [f5]
      decide
    · refine ⟨by omega, (r0 0 (by omega)).symm, (r0 1 (by omega)).symm, rfl, by rw [show (hEmp g).mo.tick = 0 from rfl, pn_0]; omega, by rw [show (hEmp g).mo.tick = 0 from rfl, pn_0]; omega, fun s hs => absurd hs (Nat.not_lt_zero _), fun s hs => absurd hs (Nat.not_lt_zero _), fun s _ _ => b_0 s⟩
theorem rd_ini {sc : ScS} {g : HaS} {m : MdS} {Z : Nat} (hZ : Z ≤ 120) (h1 : sc.size = nI Z) (h2 : m.len = nI Z) (h3 : ∀ i, i < Z → sc.bytes i = m.text i) : rdR m.text Z 0 (scStep (sc.size, sc.bytes, 0, sc.tokAt, sc.tok, sc.val, 0)) (hEmp g) (dSkp (dIni m)) := by
  obtain ⟨f1, f2, f3, f4, f5, f6, f7, f8⟩ := ini_f m
  obtain ⟨k1, k2⟩ := kM_tx (kM_ini m)
  exact rd_iniT hZ h1 h2 h3 (dIni m) _ f1 f2 f3 f4 f5 f6 f7 f8 k1 k2
theorem dCom_f (T : MdS) : (dCom T).len = 0 ∧ (dCom T).pl = T.rp ∧ (dCom T).loss = T.rl ∧ (dCom T).nich = T.rn ∧ (dCom T).st = va_cpy T.read T.st 0 0 50 ∧ (dCom T).undos = 0 ∧ (dCom T).kept = upd (upd T.kept 0 0) 1 0 ∧ (dCom T).hm = 0 ∧ (dCom T).trail = T.trail := ⟨rfl, rfl, rfl, rfl, rfl, rfl, rfl, rfl, rfl⟩
theorem m10 {q : Nat} (h : q ≤ 120) : (-10) - nI q < 0 := by
  rw [pn_lt, pn_sub (by rw [nI_toInt (by omega), show (-10 : Int32).toInt = -10 by decide]; omega) (by rw [nI_toInt (by omega), show (-10 : Int32).toInt = -10 by decide]; omega), nI_toInt (by omega), show (-10 : Int32).toInt = -10 by decide, pn_0]
  omega
section
variable {sc : ScS} {u : HeS} {h : HaS} {ke : Nat → Int32} {m0 m1 : MoS} {tr : Int64} {m : MdS}
theorem kM_rAll {t : MdS} (e : kM t = kM m) (r : rAll sc u h ke m0 m1 tr m) : rAll sc u h ke m0 m1 tr t := by
  obtain ⟨a1, a2, a3, a4, a5, a6, a7, a8, a9, a10, a11, a12, a13⟩ := kM_all e
  unfold rAll rTx rHs rHl rIm at *
  rw [a1, a2, a3, a4, a5, a6, a7, a8, a9, a10, a11, a12, a13]
  exact r
theorem z_galT (r : rAll sc u h ke m0 m1 tr m) {Z : Nat} (hZ : Z ≤ 120) (t1 : sc.size = nI Z) (t2 : m.len = nI Z) (t3 : ∀ i, i < Z → sc.bytes i = m.text i) (R : ScS × HaS × Int32) (T X : MdS) (hsz : R.1.size = sc.size ∧ R.1.bytes = sc.bytes) (hKM : kM T = kM m) (hX : X.len = 0 ∧ X.pl = T.rp ∧ X.loss = T.rl ∧ X.nich = T.rn ∧ X.st = va_cpy T.read T.st 0 0 50 ∧ X.undos = 0 ∧ X.kept = upd (upd T.kept 0 0) 1 0 ∧ X.hm = 0 ∧ X.trail = T.trail)
    (hL : (T.wrong < 0 ∧ (∃ k : Nat, k ≤ 40 ∧ R.2.2 = nI k ∧ T.items = nI k) ∧ rdC R.2.1 T) ∨ (∃ q : Nat, q ≤ 120 ∧ T.wrong = nI q ∧ R.2.2 = (-10) - nI q)) :
    R.2.2 = (if T.wrong < 0 then T.items else (-10) - T.wrong) ∧ (R.2.2 < 0 → rAll R.1 u h ke m0 m1 tr (if T.wrong < 0 then X else T)) ∧ (¬ R.2.2 < 0 → rAll (xGaSc R.1) (0, u.ats, u.beh, u.the) R.2.1 (upd (upd ke 0 0) 1 0) m0 m1 tr (if T.wrong < 0 then X else T)) := by
  rcases hL with ⟨w, ⟨k, hk40, e1, e2⟩, hC⟩ | ⟨q, hq, w, e1⟩
  · have hn : ¬ R.2.2 < 0 := by rw [e1]; exact nI_pos (by omega)
    rw [if_pos w, if_pos w]
    refine ⟨e1.trans e2.symm, fun x => absurd x hn, fun _ => ?_⟩
    obtain ⟨a1, a2, a3, a4, a5, a6, a7, a8, a9, a10, a11, a12, a13⟩ := kM_all hKM
    obtain ⟨c1, c2, c3, c4, c5, c6, c7, c8, c9, c10, c11, n, hn⟩ := hC
    obtain ⟨R1, R2, R3⟩ := R
    have c9 : R2.mo.noted = 0 := c9
    obtain ⟨d1, d2, d3, d4, d5, d6, d7, d8, d9⟩ := hX
    refine ⟨⟨0, by omega, rfl, d1, fun i hi => absurd hi (Nat.not_lt_zero _)⟩, ⟨0, by omega, rfl, d8, fun i hi => absurd hi (Nat.not_lt_zero _)⟩, ?_, ⟨0, by omega, c9, d6, n, ?_⟩, ⟨?_, ?_, Or.inl ?_, Or.inl ?_⟩, ?_⟩
    · unfold rHl
      rw [d2, d3, d4]
      exact ⟨c1, c2, c3, c4, c5, c6, c7⟩
    · refine rMo_ag hn ⟨rfl, rfl, fun _ _ => rfl, fun _ _ => ⟨rfl, rfl, rfl, rfl, rfl⟩⟩ (fun x hx => ?_)
      rw [d5, pk_cpy_in (by omega) (by omega)]
      exact congrArg T.read (by omega)
    · rw [d7, pk_un (by omega), pk_us, pk_un (by omega), pk_us]
    · rw [d7, pk_us, pk_us]
    · show upd (upd ke 0 0) 1 0 0 = 0
      rw [pk_un (by omega), pk_us]
    · show upd (upd ke 0 0) 1 0 1 = 0
      rw [pk_us]
    · rw [d9, a13]
      exact r.2.2.2.2.2
  · have hn : R.2.2 < 0 := by rw [e1]; exact m10 hq
    have hnw : ¬ T.wrong < 0 := by rw [w]; exact nI_nn hq
    rw [if_neg hnw, if_neg hnw, w]
    refine ⟨e1, fun _ => ?_, fun x => absurd hn x⟩
    refine kM_rAll hKM ?_
    refine ⟨⟨Z, hZ, ?_, t2, ?_⟩, r.2⟩
    · rw [hsz.1]
      exact t1
    · rw [hsz.2]
      exact t3
theorem z_gal (r : rAll sc u h ke m0 m1 tr m) (g : HaS) : (rInto sc g).2.2 = dGalR m ∧
    ((rInto sc g).2.2 < 0 → rAll (rInto sc g).1 u h ke m0 m1 tr (dGalS m)) ∧
    (¬ (rInto sc g).2.2 < 0 → rAll (xGaSc (rInto sc g).1) (0, u.ats, u.beh, u.the) (rInto sc g).2.1 (upd (upd ke 0 0) 1 0) m0 m1 tr (dGalS m)) := by
  obtain ⟨Z, hZ, t1, t2, t3⟩ := id r.1
  have hI := rd_ini (g := g) hZ t1 t2 t3
  have hL := rd_loop hZ 121 0 _ _ _ hI (by omega)
  have hk := kS_into sc g
  have eR : rInto sc g = rLp (120 - 0) 0 (scStep (sc.size, sc.bytes, 0, sc.tokAt, sc.tok, sc.val, 0)) (hEmp g) := by rw [rInto_def, rIntoD]
  rw [← eR] at hL
  have hsz : (rInto sc g).1.size = sc.size ∧ (rInto sc g).1.bytes = sc.bytes := by
    unfold kS at hk
    injection hk with a b
    exact ⟨a, b⟩
  exact z_galT r hZ t1 t2 t3 (rInto sc g) (dGal0 m) (dCom (dGal0 m)) hsz (kM_gal m) (dCom_f _) hL
end
