/-! ===== what the reading leaves alone ===== -/
abbrev KMt : Type := (Nat → Int32) × Int32 × Int32 × Int32 × Int32 × (Nat → Int32) × (Nat → Int32) × Int32 × (Nat → Int32) × (Nat → Int32) × (Nat → Int32) × Int32 × Int64
def kM (t : MdS) : KMt := (t.text, t.len, t.pl, t.loss, t.nich, t.st, t.book, t.undos, t.imgs, t.kept, t.heard, t.hm, t.trail)
theorem kM_pos (t : MdS) (v : Int32) : kM (mPos t v) = kM t := rfl
theorem kM_wr (t : MdS) (v : Int32) : kM (mWr t v) = kM t := rfl
theorem kM_it (t : MdS) (v : Int32) : kM (mIt t v) = kM t := rfl
theorem kM_rp (t : MdS) (v : Int32) : kM (mRp t v) = kM t := rfl
theorem kM_rl (t : MdS) (v : Int32) : kM (mRl t v) = kM t := rfl
theorem kM_sl (t : MdS) (v : Int32) : kM (mSl t v) = kM t := rfl
theorem kM_rn (t : MdS) (v : Int32) : kM (mRn t v) = kM t := rfl
theorem kM_rd (t : MdS) (v : Nat → Int32) : kM (mRd t v) = kM t := rfl
theorem dSkpD_pos (t : MdS) : dSkpD t = mPos t (nI (stQ t.text t.len.toNatClampNeg t.pos.toNatClampNeg)) := rfl
theorem kM_skp (t : MdS) : kM (dSkp t) = kM t := by rw [dSkp_def, dSkpD_pos, kM_pos]
theorem kM_end (t : MdS) : kM (dEnd t) = kM t := by
  rw [dEnd_def, dEndD]
  split
  · split
    · rw [kM_it, kM_pos, kM_skp]
    · rw [kM_wr, kM_skp]
  · rfl
theorem kM_num (t : MdS) (lo hi : Int32) : kM (dNum t lo hi) = kM t := by
  rw [dNum_def, dNumD]
  split
  · split
    · rw [kM_pos, kM_skp]
    · rw [kM_wr, kM_skp]
  · rfl
theorem kM_ns (t : MdS) (i : Nat) (lo hi : Int32) : kM (dNS t i lo hi) = kM t := by rw [dNS, kM_rd, kM_num]
theorem kM_s5 (t : MdS) : kM (dS5 t) = kM t := by rw [dS5, kM_rd]
theorem kM_say (t : MdS) (n : Nat) : kM (dSay t n) = kM t := by rw [dSay_def, dSayD, kM_end, kM_s5, kM_ns, kM_ns, kM_ns, kM_ns]
theorem kM_in (t : MdS) : kM (dIn t) = kM t := by rw [dIn, kM_pos]
theorem kM_itm (t : MdS) : kM (dItm t) = kM t := by
  rw [dItm_def, dItmD]
  split
  · split
    · rw [kM_end, kM_rp, kM_num, kM_in]
    · split
      · rw [kM_end, kM_rl, kM_num, kM_sl, kM_in]
      · split
        · rw [kM_end, kM_rn, kM_num, kM_in]
        · rw [kM_say, kM_in]
  · rw [kM_wr]
theorem kM_lp : ∀ (f : Nat) (t : MdS), kM (dLp f t) = kM t
  | 0, _ => rfl
  | f + 1, t => by
    rw [dLp]
    split
    · split
      · rw [kM_lp f]
        split
        · rw [kM_skp, kM_itm]
        · rw [kM_itm]
      · rfl
    · rfl
theorem kM_ini (m : MdS) : kM (dIni m) = kM m := by
  rw [dIni, kM_rd, dIn0, kM_rn, kM_sl, kM_rl, kM_rp, kM_it, kM_wr, kM_pos]
theorem kM_gal (m : MdS) : kM (dGal0 m) = kM m := by rw [dGal0, kM_lp, kM_skp, kM_ini]
/-! the class's script keeps its bytes -/
def kS (s : ScS) : Int32 × (Nat → Int32) := (s.size, s.bytes)
theorem kS_step (s : ScS) : kS (scStep s) = kS s := by
  rw [scStep_def]
  rfl
theorem kS_stop (s : ScS) : kS (scStop s) = kS s := by
  unfold scStop
  split
  · rw [kS_step, kS_step]
  · rw [kS_step]
theorem kS_told (s : ScS) : kS (scTold s) = kS s := rfl
theorem kS_it (s : ScS) (h : HaS) (it : Int32) : kS (rIt s h it).1 = kS s := by
  rw [rIt_def, rItD]
  split
  · split
    · unfold rNi
      split
      · exact (kS_stop _).trans (kS_step _)
      · exact kS_step _
    · split
      · split
        · unfold rLo
          split
          · exact (kS_stop _).trans ((kS_told _).trans (kS_step _))
          · exact kS_step _
        · rfl
      · split
        · split
          · unfold rPl
            split
            · exact (kS_stop _).trans (kS_step _)
            · exact kS_step _
          · rfl
        · split
          · split
            · unfold rSa
              split
              · split
                · split
                  · split
                    · split
                      · exact (kS_stop _).trans ((kS_step _).trans ((kS_step _).trans ((kS_step _).trans (kS_step _))))
                      · exact (kS_step _).trans ((kS_step _).trans ((kS_step _).trans (kS_step _)))
                    · exact (kS_step _).trans ((kS_step _).trans ((kS_step _).trans (kS_step _)))
                  · exact (kS_step _).trans ((kS_step _).trans (kS_step _))
                · exact (kS_step _).trans (kS_step _)
              · exact kS_step _
            · rfl
          · rfl
  · rfl
theorem kS_lp : ∀ (f it : Nat) (s : ScS) (h : HaS), kS (rLp f it s h).1 = kS s
  | 0, _, _, _ => rfl
  | f + 1, it, s, h => by
    rw [rLp]
    split
    · rfl
    · split
      · rw [kS_lp f, kS_it]
      · exact kS_it _ _ _
theorem kS_into (s : ScS) (h : HaS) : kS (rInto s h).1 = kS s := by
  rw [rInto_def, rIntoD, kS_lp, kS_step]
  rfl
/-! ===== the reading, step by step ===== -/
/-- the class stands at the token that begins at q -/
def rdT (B : Nat → Int32) (Z q : Nat) (s : ScS) : Prop := s.size = nI Z ∧ (∀ i, i < Z → s.bytes i = B i) ∧ s.next = nI (stE B Z q) ∧ s.tokAt = nI q ∧ s.tok = stT B Z q ∧ s.val = stV B Z q
theorem c_step {B : Nat → Int32} {Z x : Nat} {s : ScS} (hZ : Z ≤ 120) (hx : x ≤ Z) (h1 : s.size = nI Z) (h2 : ∀ i, i < Z → s.bytes i = B i) (h3 : s.next = nI x) : rdT B Z (stQ B Z x) (scStep s) ∧ (scStep s).told = s.told := by
  have hq := (stQ_le (B := B) hx).2
  rw [scStep_eq h1 hZ h3 hx]
  have eQ : stQ s.bytes Z x = stQ B Z x := stQ_cong h2 hx
  rw [eQ, stE_cong h2 hq, stT_cong h2 hq, stV_cong h2 hq hZ]
  exact ⟨⟨h1, h2, rfl, rfl, rfl, rfl⟩, rfl⟩
theorem c_next {B : Nat → Int32} {Z q : Nat} {s : ScS} (hZ : Z ≤ 120) (hq : q ≤ Z) (h : rdT B Z q s) : rdT B Z (stQ B Z (stE B Z q)) (scStep s) ∧ (scStep s).told = s.told := c_step hZ (stE_le hq).2 h.1 h.2.1 h.2.2.1
theorem stE_gt {B : Nat → Int32} {Z q : Nat} (hq : q < Z) : q < stE B Z q := by
  have key : ∀ t, tkOf (B q) = t → q < runT B Z t (Z - q) q := by
    intro t e
    rw [runT_y hq e]
    have := runT_le (B := B) (Z := Z) (t := t) (Z - (q + 1)) (q + 1)
    omega
  unfold stE
  rw [if_pos hq]
  split
  · exact key _ rfl
  · split
    · exact key _ rfl
    · omega
/-- what was told so far, on both sides -/
def rdC (h : HaS) (t : MdS) : Prop := h.pl = t.rp ∧ h.loss = t.rl ∧ h.nich = t.rn ∧ (∃ N : Nat, 4 ≤ N ∧ N ≤ 24 ∧ t.rp = nI N) ∧ 1 ≤ t.rl.toInt ∧ t.rl.toInt ≤ 9 ∧ (∃ c : Nat, c < 2 ^ 24 ∧ t.rn = nI c) ∧ h.mo.tick = 0 ∧ h.mo.noted = 0 ∧ h.mo.hushed = 0 ∧ (∀ s, s < 8 → t.read (34 + s) = 0 ∧ t.read (42 + s) = 0) ∧ ∃ n, rMo n h.mo t.read
theorem rdC_pos {h : HaS} {t : MdS} {v : Int32} (r : rdC h t) : rdC h (mPos t v) := r
theorem rdC_it {h : HaS} {t : MdS} {v : Int32} (r : rdC h t) : rdC h (mIt t v) := r
theorem rdC_sl {h : HaS} {t : MdS} {v : Int32} (r : rdC h t) : rdC h (mSl t v) := r
def rdR (B : Nat → Int32) (Z it : Nat) (s : ScS) (h : HaS) (t : MdS) : Prop := ∃ q : Nat, q ≤ Z ∧ rdT B Z q s ∧ t.text = B ∧ t.len = nI Z ∧ t.pos = nI q ∧ t.wrong < 0 ∧ s.told = t.sl ∧ t.items = nI it ∧ 3 * it ≤ q ∧ rdC h t
def rdO (B : Nat → Int32) (Z it : Nat) (cs : ScS × HaS × Bool) (u : MdS) : Prop := (cs.2.2 = true ∧ u.wrong < 0 ∧ rdR B Z (it + 1) cs.1 cs.2.1 (dSkp u)) ∨ (cs.2.2 = false ∧ ∃ q : Nat, q ≤ Z ∧ cs.1.tokAt = nI q ∧ u.wrong = nI q)
theorem nI_nn {q : Nat} (h : q ≤ 120) : ¬ nI q < 0 := nI_pos (by omega)
theorem dEnd_w {t : MdS} (h : ¬ t.wrong < 0) : dEnd t = t := by rw [dEnd_def, dEndD, if_neg h]
theorem dNum_w {t : MdS} {lo hi : Int32} (h : ¬ t.wrong < 0) : dNum t lo hi = t := by rw [dNum_def, dNumD, if_neg h]
/-- behind what an item tells: its ; -/
theorem rd_fin {B : Nat → Int32} {Z it q1 : Nat} {s1 : ScS} {h : HaS} {u : MdS} (hZ : Z ≤ 120) (hq1 : q1 ≤ Z) (hT : rdT B Z q1 s1) (hB : u.text = B) (hz : u.len = nI Z) (hp : u.pos = nI (stE B Z q1)) (hw : u.wrong < 0) (htold : s1.told = u.sl) (hit : u.items = nI it) (h3 : 3 * it + 2 ≤ stE B Z q1) (hC : rdC h u) : rdO B Z it (scStop s1, h, stopOk s1) (dEnd u) := by
  have he := (stE_le (B := B) hq1).2
  obtain ⟨hT2, ht2⟩ := c_next hZ hq1 hT
  obtain ⟨m1, m2⟩ := m_end hZ hz hp he hw
  rw [hB] at m1 m2
  have hQ := stQ_le (B := B) he
  generalize stQ B Z (stE B Z q1) = q2 at *
  by_cases c : stT B Z q2 = 3
  · obtain ⟨p, i, ep, ei, eD⟩ := m1 c
    have ct : (scStep s1).tok = 3 := by rw [hT2.2.2.2.2.1]; exact c
    have eE := st3E c
    have hE2 := (stE_le (B := B) hQ.2).2
    obtain ⟨hT3, ht3⟩ := c_next hZ hQ.2 hT2
    refine Or.inl ⟨?_, ?_, ?_⟩
    · show decide ((scStep s1).tok = 3) = true
      exact decide_eq_true ct
    · rw [eD]
      exact hw
    · have eS : scStop s1 = scStep (scStep s1) := by unfold scStop; rw [if_pos ct]
      rw [eE] at hT3 hE2
      have hk : dSkp (dEnd u) = mPos (dEnd u) (nI (stQ B Z (q2 + 1))) := by
        rw [eD]
        have := dSkp_eq (m := mIt (mPos u p) i) hZ hE2 hz ep
        rw [show (mIt (mPos u p) i).text = B from hB] at this
        exact this
      have hQ3 := stQ_le (B := B) hE2
      obtain ⟨v, hv⟩ : ∃ v, v = nI (stQ B Z (q2 + 1)) := ⟨_, rfl⟩
      rw [hk, ← hv, eD]
      show rdR B Z (it + 1) (scStop s1) h (mPos (mIt (mPos u p) i) v)
      rw [eS]
      refine ⟨_, hQ3.2, hT3, hB, hz, hv, hw, ?_, ?_, by omega, rdC_pos (rdC_it (rdC_pos hC))⟩
      · rw [ht3, ht2]
        exact htold
      · show i = _
        rw [ei, hit]
        exact nI_1 it
  · obtain ⟨p, ep, eD⟩ := m2 c
    have ct : ¬ (scStep s1).tok = 3 := by rw [hT2.2.2.2.2.1]; exact c
    refine Or.inr ⟨?_, q2, hQ.2, ?_, ?_⟩
    · show decide ((scStep s1).tok = 3) = false
      exact decide_eq_false ct
    · show (scStop s1).tokAt = nI q2
      unfold scStop
      rw [if_neg ct]
      exact hT2.2.2.2.1
    · rw [eD]
      exact ep
/-- a letter alone -/
theorem lt_tok {B : Nat → Int32} {Z q : Nat} (hZ : Z ≤ 120) (hq : q < Z) : (stT B Z q = 1 ↔ wIn (B q) 97 122 = true) ∧ (wIn (B q) 97 122 = true → (q + 1 < Z → wIn (B (q + 1)) 97 122 = false) → stV B Z q = B q ∧ stE B Z q = q + 1) ∧ (wIn (B q) 97 122 = true → ¬ (q + 1 < Z → wIn (B (q + 1)) 97 122 = false) → stV B Z q = 0) := by
  refine ⟨?_, ?_, ?_⟩
  · rw [← tk1]
    unfold stT wgT
    rw [if_pos hq]
    by_cases t1 : tkOf (B q) = 1
    · rw [if_pos t1, t1]
      refine ⟨fun _ => rfl, fun _ => ?_⟩
      split
      · rfl
      · rw [if_neg (by decide)]
    · rw [if_neg t1]
      refine ⟨fun e => ?_, fun e => absurd e t1⟩
      by_cases t2 : tkOf (B q) = 2
      · rw [if_pos t2, t2] at e
        split at e
        · exact absurd e (by decide)
        · rw [if_pos rfl] at e
          split at e
          · split at e
            · exact absurd e (by decide)
            · exact absurd e (by decide)
          · exact absurd e (by decide)
      · rw [if_neg t2] at e
        exact absurd e t1
  · intro h1 h2
    have t1 := (tk1 _).mpr h1
    have eE : stE B Z q = q + 1 := by
      unfold stE
      rw [if_pos hq, if_pos t1, t1, runT_y hq t1]
      rcases Nat.lt_or_ge (q + 1) Z with g | g
      · exact runT_n g (fun e => by
          have := (tk1 _).mp e
          rw [h2 g] at this
          exact absurd this (by decide))
      · exact runT_e g
    refine ⟨?_, eE⟩
    unfold stV wgV
    rw [if_pos hq, if_pos t1, t1, eE, Nat.add_sub_cancel_left, if_pos (show nI 1 = 1 from rfl), if_neg (by decide)]
  · intro h1 h2
    have t1 := (tk1 _).mpr h1
    have g : q + 1 < Z := by
      rcases Nat.lt_or_ge (q + 1) Z with g | g
      · exact g
      · exact absurd (fun z => by omega) h2
    have w : wIn (B (q + 1)) 97 122 = true := by
      cases e : wIn (B (q + 1)) 97 122
      · exact absurd (fun _ => e) h2
      · rfl
    have eE : q + 2 ≤ stE B Z q := by
      unfold stE
      rw [if_pos hq, if_pos t1, t1, runT_y hq t1, runT_y g ((tk1 _).mpr w)]
      exact (runT_le _ _).1
    have hE := (stE_le (B := B) (Nat.le_of_lt hq)).2
    have n1 : ¬ nI (stE B Z q - q) = 1 := fun e => by
      have := (nI_eq (by omega) (by decide)).mp (show nI (stE B Z q - q) = nI 1 from e)
      omega
    unfold stV wgV
    rw [if_pos hq, if_pos t1, t1, if_neg n1, if_neg (by decide)]
