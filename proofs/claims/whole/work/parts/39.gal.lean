/-! ===== the reading of the text: the class's tokens and the model's ===== -/
theorem tk1 (c : Int32) : tkOf c = 1 ↔ wIn c 97 122 = true := by
  unfold tkOf
  split
  · exact ⟨fun _ => by assumption, fun _ => rfl⟩
  · rename_i h
    constructor
    · intro e
      split at e
      · exact absurd e (by decide)
      · split at e
        · exact absurd e (by decide)
        · exact absurd e (by decide)
    · intro e
      exact absurd e h
theorem tk2 (c : Int32) : tkOf c = 2 ↔ wIn c 48 57 = true := by
  unfold tkOf
  split
  · rename_i h
    constructor
    · intro e
      exact absurd e (by decide)
    · intro e
      rw [wIn_iff] at h e
      rw [show (97 : Int32).toInt = 97 by decide] at h
      rw [show (57 : Int32).toInt = 57 by decide] at e
      omega
  · split
    · exact ⟨fun _ => by assumption, fun _ => rfl⟩
    · rename_i h
      constructor
      · intro e
        split at e
        · exact absurd e (by decide)
        · exact absurd e (by decide)
      · intro e
        exact absurd e h
theorem tk3 (c : Int32) : tkOf c = 3 ↔ c = 59 := by
  constructor
  · intro e
    unfold tkOf at e
    split at e
    · exact absurd e (by decide)
    · split at e
      · exact absurd e (by decide)
      · split at e
        · assumption
        · exact absurd e (by decide)
  · intro e
    rw [e]
    decide
/-! the same bytes, the same tokens -/
theorem skp_cong {B C : Nat → Int32} {Z : Nat} (hBC : ∀ i, i < Z → B i = C i) : ∀ (f x : Nat), x + f ≤ Z → skp B Z f x = skp C Z f x
  | 0, _, _ => rfl
  | f + 1, x, h => by rw [skp, skp, hBC x (by omega), skp_cong hBC f (x + 1) (by omega)]
theorem runT_cong {B C : Nat → Int32} {Z : Nat} (hBC : ∀ i, i < Z → B i = C i) (t : Int32) : ∀ (f x : Nat), x + f ≤ Z → runT B Z t f x = runT C Z t f x
  | 0, _, _ => rfl
  | f + 1, x, h => by rw [runT, runT, hBC x (by omega), runT_cong hBC t f (x + 1) (by omega)]
theorem stQ_cong {B C : Nat → Int32} {Z : Nat} (hBC : ∀ i, i < Z → B i = C i) {x : Nat} (h : x ≤ Z) : stQ B Z x = stQ C Z x := skp_cong hBC (Z - x) x (by omega)
theorem stE_cong {B C : Nat → Int32} {Z : Nat} (hBC : ∀ i, i < Z → B i = C i) {q : Nat} (h : q ≤ Z) : stE B Z q = stE C Z q := by
  unfold stE
  split
  · rw [hBC q (by assumption), runT_cong hBC _ (Z - q) q (by omega)]
  · rfl
theorem stT_cong {B C : Nat → Int32} {Z : Nat} (hBC : ∀ i, i < Z → B i = C i) {q : Nat} (h : q ≤ Z) : stT B Z q = stT C Z q := by
  unfold stT
  rw [stE_cong hBC h]
  split
  · unfold wgT
    rw [hBC q (by assumption)]
  · rfl
theorem stV_cong {B C : Nat → Int32} {Z : Nat} (hBC : ∀ i, i < Z → B i = C i) {q : Nat} (h : q ≤ Z) (hZ : Z ≤ 120) : stV B Z q = stV C Z q := by
  unfold stV
  rw [stE_cong hBC h]
  split
  · rename_i hq
    have hE := stE_le (B := C) h
    unfold wgV
    rw [hBC q hq]
    by_cases c : nI (stE C Z q - q) = 2
    · have e : stE C Z q - q = 2 := (nI_eq (by omega) (by decide)).mp c
      rw [hBC (q + 1) (by omega)]
    · repeat rw [if_neg c]
  · rfl
theorem runT_D {B : Nat → Int32} {Z : Nat} : ∀ (f x : Nat), runT B Z 2 f x = runD B Z f x
  | 0, _ => rfl
  | f + 1, x => by
    rw [runT, runD, runT_D f (x + 1)]
    by_cases c : tkOf (B x) = 2
    · rw [if_pos c, if_pos ((tk2 _).mp c)]
    · rw [if_neg c, if_neg (fun h => c ((tk2 _).mpr h))]
/-- a number, read by the model as by the class -/
theorem nu_tok {B : Nat → Int32} {Z q : Nat} (hZ : Z ≤ 120) (hq : q ≤ Z) (lo hi : Int32) (c : Nat) (hc : c = runD B Z (Z - q) q - q) :
    ((decide (nI c = 1) || (decide (nI c = 2) && !decide (B q = 48))) && wIn (dgV B q c) lo hi) = (decide (stT B Z q = 2) && wIn (stV B Z q) lo hi)
    ∧ ((decide (stT B Z q = 2) && wIn (stV B Z q) lo hi) = true → dgV B q c = stV B Z q ∧ q + c = stE B Z q) := by
  have hr := runD_le (B := B) (Z := Z) (Z - q) q
  rcases Nat.lt_or_ge q Z with h | h
  · by_cases t2 : tkOf (B q) = 2
    · have e1 : stE B Z q = q + c := by
        unfold stE
        rw [if_pos h, if_neg (by rw [t2]; decide), if_pos t2, t2, runT_D]
        omega
      have eT : stT B Z q = wgT B q 2 (nI c) := by
        unfold stT
        rw [if_pos h, if_neg (by rw [t2]; decide), if_pos t2, t2, e1, Nat.add_sub_cancel_left]
      have eV : stV B Z q = wgV B q 2 (nI c) 0 := by
        unfold stV
        rw [if_pos h, if_neg (by rw [t2]; decide), if_pos t2, t2, e1, Nat.add_sub_cancel_left]
      rw [eT, eV]
      unfold wgT wgV
      by_cases c1 : c = 1
      · subst c1
        have d1 : dgV B q 1 = B q - 48 := by
          rw [dgV, dgV, if_pos (by decide), Nat.add_zero]
          rw [show (10 : Int32) * 0 = 0 by decide, Int32.zero_add]
        rw [if_pos (show nI 1 = 1 from rfl), if_pos (show nI 1 = 1 from rfl), if_pos rfl, d1, decide_eq_true (show nI 1 = 1 from rfl)]
        exact ⟨rfl, fun _ => ⟨rfl, e1.symm⟩⟩
      · have n1 : ¬ nI c = 1 := fun g => c1 ((nI_eq (by omega) (by decide)).mp (show nI c = nI 1 from g))
        by_cases c2 : c = 2
        · subst c2
          have d1 : dgV B q 1 = B q - 48 := by
            rw [dgV, dgV, if_pos (by decide), Nat.add_zero]
            rw [show (10 : Int32) * 0 = 0 by decide, Int32.zero_add]
          have d2 : dgV B q 2 = 10 * (B q - 48) + B (q + 1) - 48 := by rw [dgV, d1, if_pos (by decide)]
          rw [if_neg n1, if_neg n1, if_pos rfl, if_pos rfl, if_pos (show nI 2 = 2 from rfl), if_pos (show nI 2 = 2 from rfl), d2, decide_eq_false n1, decide_eq_true (show nI 2 = 2 from rfl)]
          by_cases z : B q = 48
          · rw [if_pos z, if_pos z, decide_eq_true z]
            exact ⟨rfl, fun g => absurd (show false = true from g) (by decide)⟩
          · rw [if_neg z, if_neg z, decide_eq_false z]
            exact ⟨rfl, fun _ => ⟨rfl, e1.symm⟩⟩
        · have n2 : ¬ nI c = 2 := fun g => c2 ((nI_eq (by omega) (by decide)).mp (show nI c = nI 2 from g))
          rw [if_neg n1, if_neg n1, if_pos rfl, if_pos rfl, if_neg n2, if_neg n2, decide_eq_false n1, decide_eq_false n2]
          exact ⟨rfl, fun g => absurd (show false = true from g) (by decide)⟩
    · have r0 : runD B Z (Z - q) q = q := runD_n h (by
        cases g : wIn (B q) 48 57
        · rfl
        · exact absurd ((tk2 _).mpr g) t2)
      have c0 : c = 0 := by omega
      have eT : ¬ stT B Z q = 2 := by
        unfold stT wgT
        rw [if_pos h]
        by_cases t1 : tkOf (B q) = 1
        · rw [if_pos t1, t1]
          split
          · decide
          · rw [if_neg (by decide)]
            decide
        · rw [if_neg t1, if_neg t2]
          exact t2
      subst c0
      rw [decide_eq_false eT]
      exact ⟨rfl, fun g => absurd (show false = true from g) (by decide)⟩
  · have eT : ¬ stT B Z q = 2 := by
      unfold stT
      rw [if_neg (by omega)]
      decide
    have c0 : c = 0 := by
      rw [show Z - q = 0 by omega, runD] at hc
      omega
    subst c0
    rw [decide_eq_false eT]
    exact ⟨rfl, fun g => absurd (show false = true from g) (by decide)⟩
theorem mPos_mPos (t : MdS) (u v : Int32) : mPos (mPos t u) v = mPos t v := rfl
theorem m_num {t : MdS} {Z e : Nat} (hZ : Z ≤ 120) (hz : t.len = nI Z) (he : t.pos = nI e) (heZ : e ≤ Z) (hw : t.wrong < 0) (lo hi : Int32) :
    ((decide (stT t.text Z (stQ t.text Z e) = 2) && wIn (stV t.text Z (stQ t.text Z e)) lo hi) = true → (∃ p, p = nI (stE t.text Z (stQ t.text Z e)) ∧ dNum t lo hi = mPos t p) ∧ dNumR t lo hi = stV t.text Z (stQ t.text Z e))
    ∧ ((decide (stT t.text Z (stQ t.text Z e) = 2) && wIn (stV t.text Z (stQ t.text Z e)) lo hi) = false → ∃ p, p = nI (stQ t.text Z e) ∧ dNum t lo hi = mWr (mPos t p) p) := by
  have hq := (stQ_le (B := t.text) heZ).2
  have eS := dSkp_eq hZ heZ hz he
  rw [dNum_def, dNumD, dNumR, if_pos hw, if_pos hw, eS]
  generalize stQ t.text Z e = q at *
  obtain ⟨p, hp⟩ : ∃ p, p = nI q := ⟨_, rfl⟩
  rw [← hp]
  have hcl : p.toNatClampNeg = q := by rw [hp]; exact nI_clamp (by omega)
  have eC : dNumC (mPos t p) = runD t.text Z (Z - q) q - q := by
    show dgC t.text t.len.toNatClampNeg p.toNatClampNeg = _
    rw [hz, hcl, nI_clamp (by omega)]
    rfl
  have eV : dNumV (mPos t p) = dgV t.text q (dNumC (mPos t p)) := by
    show dgV t.text p.toNatClampNeg (dNumC (mPos t p)) = _
    rw [hcl]
  obtain ⟨k1, k2⟩ := nu_tok hZ hq lo hi (dNumC (mPos t p)) eC
  have eK : dNumK (mPos t p) lo hi = (decide (stT t.text Z q = 2) && wIn (stV t.text Z q) lo hi) := by
    rw [← k1]
    unfold dNumK
    rw [eV]
    show ((decide (nI (dNumC (mPos t p)) = 1) || (decide (nI (dNumC (mPos t p)) = 2) && !decide (t.text p.toNatClampNeg = 48))) && _) = _
    rw [hcl]
  rw [eK]
  constructor
  · intro g
    rw [if_pos g, if_pos g, eV]
    obtain ⟨g1, g2⟩ := k2 g
    refine ⟨⟨_, rfl, ?_⟩, g1⟩
    have e2 : p + nI (dNumC (mPos t p)) = nI (stE t.text Z q) := by rw [← g2, ← nI_add, ← hp]
    show mPos (mPos t p) (p + nI (dNumC (mPos t p))) = _
    rw [e2, mPos_mPos]
  · intro g
    rw [if_neg (by rw [g]; decide)]
    exact ⟨p, rfl, rfl⟩
theorem st3 {B : Nat → Int32} {Z q : Nat} : stT B Z q = 3 ↔ q < Z ∧ B q = 59 := by
  constructor
  · intro e
    rcases Nat.lt_or_ge q Z with h | h
    · refine ⟨h, ?_⟩
      unfold stT wgT at e
      rw [if_pos h] at e
      by_cases t1 : tkOf (B q) = 1
      · rw [if_pos t1, t1] at e
        split at e
        · exact absurd e (by decide)
        · rw [if_neg (by decide)] at e
          exact absurd e (by decide)
      · rw [if_neg t1] at e
        by_cases t2 : tkOf (B q) = 2
        · rw [if_pos t2, t2] at e
          split at e
          · exact absurd e (by decide)
          · rw [if_pos rfl] at e
            split at e
            · split at e
              · exact absurd e (by decide)
              · exact absurd e (by decide)
            · exact absurd e (by decide)
        · rw [if_neg t2] at e
          exact (tk3 _).mp e
    · unfold stT at e
      rw [if_neg (by omega)] at e
      exact absurd e (by decide)
  · rintro ⟨h, e⟩
    have t3 := (tk3 (B q)).mpr e
    unfold stT
    rw [if_pos h, t3]
    rfl
theorem st3E {B : Nat → Int32} {Z q : Nat} (h : stT B Z q = 3) : stE B Z q = q + 1 := by
  obtain ⟨h1, h2⟩ := st3.mp h
  have t3 := (tk3 (B q)).mpr h2
  unfold stE
  rw [if_pos h1, t3]
  rfl
theorem m_end {t : MdS} {Z e : Nat} (hZ : Z ≤ 120) (hz : t.len = nI Z) (he : t.pos = nI e) (heZ : e ≤ Z) (hw : t.wrong < 0) :
    (stT t.text Z (stQ t.text Z e) = 3 → ∃ p i, p = nI (stQ t.text Z e + 1) ∧ i = t.items + 1 ∧ dEnd t = mIt (mPos t p) i)
    ∧ (¬ stT t.text Z (stQ t.text Z e) = 3 → ∃ p, p = nI (stQ t.text Z e) ∧ dEnd t = mWr (mPos t p) p) := by
  have hq := (stQ_le (B := t.text) heZ).2
  have eS := dSkp_eq hZ heZ hz he
  rw [dEnd_def, dEndD, if_pos hw, eS]
  generalize stQ t.text Z e = q at *
  obtain ⟨p, hp⟩ : ∃ p, p = nI q := ⟨_, rfl⟩
  rw [← hp]
  have hH : dHere (mPos t p) = 59 ↔ (q < Z ∧ t.text q = 59) := by
    show (if p < t.len then t.text p.toNatClampNeg else -1) = 59 ↔ _
    rw [hp, hz, nI_clamp (by omega)]
    by_cases c : q < Z
    · rw [if_pos ((nI_ltI (by omega) (by omega)).mpr c)]
      exact ⟨fun g => ⟨c, g⟩, fun g => g.2⟩
    · rw [if_neg (fun g => c ((nI_ltI (by omega) (by omega)).mp g))]
      exact ⟨fun g => absurd g (by decide), fun g => absurd g.1 c⟩
  constructor
  · intro g
    rw [if_pos (hH.mpr (st3.mp g))]
    refine ⟨p + 1, _, ?_, rfl, rfl⟩
    rw [hp]
    exact nI_1 q
  · intro g
    rw [if_neg (fun c => g (st3.mpr (hH.mp c)))]
    exact ⟨p, rfl, rfl⟩
