/-! ===== stills: the fewest to be hushed ===== -/
def pcN (k : Nat) : Nat := k % 2 + k / 2 % 2 + k / 4 % 2 + k / 8 % 2 + k / 16 % 2 + k / 32 % 2 + k / 64 % 2 + k / 128 % 2
theorem pc_j : ∀ k : Fin 256, jBc (nI k.val) = nI (pcN k.val) := by decide +kernel
theorem pc_lt (k : Nat) : pcN k ≤ 8 := by unfold pcN; omega
theorem pc_k {k : Nat} (h : k < 256) : bitsK (nI k) = nI (pcN k) := (jBcK ⟨k, h⟩).symm.trans (pc_j ⟨k, h⟩)
theorem nI_and (a b : Nat) : nI a &&& nI b = nI (a &&& b) := by
  apply Int32.toBitVec_inj.1
  show BitVec.ofNat 32 a &&& BitVec.ofNat 32 b = BitVec.ofNat 32 (a &&& b)
  apply BitVec.eq_of_getLsbD_eq
  intro i hi
  simp [hi]
theorem bt_nI (n : Nat) {i : Nat} (hi : i < 32) : bt (nI n) i = n.testBit i := by
  show (BitVec.ofNat 32 n).getLsbD i = _
  rw [BitVec.getLsbD_ofNat, decide_eq_true hi, Bool.true_and]
/-- k is of o's bits alone -/
theorem sub_iff {k o : Nat} (hk : k < 256) (ho : o < 256) : (nI k &&& (nI o ^^^ (-1)) = 0) ↔ k &&& o = k := by
  constructor
  · intro e
    apply Nat.eq_of_testBit_eq
    intro i
    rw [Nat.testBit_and]
    rcases Nat.lt_or_ge i 32 with hi | hi
    · have e1 : bt (nI k &&& (nI o ^^^ (-1))) i = bt 0 i := by rw [e]
      rw [b_and, b_xor, b_m1 i hi, b_0, bt_nI _ hi, bt_nI _ hi] at e1
      cases h1 : k.testBit i <;> cases h2 : o.testBit i <;> simp [h1, h2] at e1 ⊢
    · have : k.testBit i = false := Nat.testBit_lt_two_pow (Nat.lt_of_lt_of_le hk (show 2 ^ 8 ≤ 2 ^ i from Nat.pow_le_pow_right (by omega) (by omega)))
      rw [this, Bool.false_and]
  · intro e
    apply b_ext
    intro i hi
    rw [b_and, b_xor, b_m1 i hi, b_0, bt_nI _ hi, bt_nI _ hi]
    have e1 : (k &&& o).testBit i = k.testBit i := by rw [e]
    rw [Nat.testBit_and] at e1
    cases h1 : k.testBit i <;> cases h2 : o.testBit i <;> simp [h1, h2] at e1 ⊢
def pcAll : Bool := (List.range 256).all fun o => (List.range o).all fun k => !(Nat.beq (k &&& o) k) || Nat.blt (pcN k) (pcN o)
theorem pcAll_ok : pcAll = true := by decide +kernel
theorem pc_less {k o : Nat} (ho : o < 256) (hk : k < o) (hs : k &&& o = k) : pcN k < pcN o := by
  have h := pcAll_ok
  unfold pcAll at h
  rw [List.all_eq_true] at h
  have h1 := h o (List.mem_range.mpr ho)
  rw [List.all_eq_true] at h1
  have h2 := h1 k (List.mem_range.mpr hk)
  rw [hs] at h2
  simpa using h2
/-- the best of the sets that will do: of the fewest bits, then the least -/
def stB (V : Nat → Prop) (O : Nat) (x : Nat) : Prop := x ≤ O ∧ V x ∧ ∀ y, y ≤ O → V y → pcN x ≤ pcN y ∧ (pcN y = pcN x → x ≤ y)
theorem stB_one {V : Nat → Prop} {O x y : Nat} (hx : stB V O x) (hy : stB V O y) : x = y := by
  have h1 := hx.2.2 y hy.1 hy.2.1
  have h2 := hy.2.2 x hx.1 hx.2.1
  have e : pcN x = pcN y := by omega
  have h3 := h1.2 e.symm
  have h4 := h2.2 e
  omega
theorem bL_iff {a b : Nat} (ha : a < 256) (hb : b < 256) : (jBc (nI a) < jBc (nI b)) ↔ pcN a < pcN b := by
  rw [show jBc (nI a) = nI (pcN a) from pc_j ⟨a, ha⟩, show jBc (nI b) = nI (pcN b) from pc_j ⟨b, hb⟩]
  have h1 := pc_lt a
  have h2 := pc_lt b
  exact nI_ltI (by omega) (by omega)
theorem few_cl {h : HaS} {n s O : Nat} (hO : O < 256) (V : Nat → Prop) (hV : ∀ k, k ≤ O → (V k ↔ (k &&& O = k ∧ hStrOf h n (nI O &&& (nI k ^^^ (-1))) < h.str s))) (hVO : V O) : ∃ x, hFewL h n s (nI O) (O + 1) = nI x ∧ stB V O x := by
  have key : ∀ k, k ≤ O + 1 → ∃ x, hFewL h n s (nI O) k = nI x ∧ x ≤ O ∧ V x ∧ (x = O ∨ x < k) ∧ ∀ y, y < k → V y → pcN x ≤ pcN y ∧ (pcN y = pcN x → x ≤ y) := by
    intro k
    induction k with
    | zero => exact fun _ => ⟨O, rfl, Nat.le_refl _, hVO, Or.inl rfl, fun y hy => absurd hy (Nat.not_lt_zero _)⟩
    | succ k ih =>
      intro hk
      obtain ⟨x, h1, h2, h3, h4, h5⟩ := ih (by omega)
      rw [hFewL, h1]
      by_cases c1 : pcN k < pcN x
      · rw [if_pos ((bL_iff (by omega) (by omega)).mpr c1)]
        by_cases c2 : k &&& O = k
        · rw [if_pos ((sub_iff (by omega) hO).mpr c2)]
          by_cases c3 : hStrOf h n (nI O &&& (nI k ^^^ (-1))) < h.str s
          · rw [if_pos c3]
            refine ⟨k, rfl, by omega, (hV k (by omega)).mpr ⟨c2, c3⟩, Or.inr (by omega), fun y hy vy => ?_⟩
            rcases Nat.lt_or_ge y k with g | g
            · have := h5 y g vy
              omega
            · have : y = k := by omega
              subst this
              exact ⟨Nat.le_refl _, fun _ => Nat.le_refl _⟩
          · rw [if_neg c3]
            refine ⟨x, rfl, h2, h3, by omega, fun y hy vy => ?_⟩
            rcases Nat.lt_or_ge y k with g | g
            · exact h5 y g vy
            · have : y = k := by omega
              subst this
              exact absurd ((hV y (by omega)).mp vy).2 c3
        · rw [if_neg (fun g => c2 ((sub_iff (by omega) hO).mp g))]
          refine ⟨x, rfl, h2, h3, by omega, fun y hy vy => ?_⟩
          rcases Nat.lt_or_ge y k with g | g
          · exact h5 y g vy
          · have : y = k := by omega
            subst this
            exact absurd ((hV y (by omega)).mp vy).1 c2
      · rw [if_neg (fun g => c1 ((bL_iff (by omega) (by omega)).mp g))]
        refine ⟨x, rfl, h2, h3, by omega, fun y hy vy => ?_⟩
        rcases Nat.lt_or_ge y k with g | g
        · exact h5 y g vy
        · have : y = k := by omega
          subst this
          refine ⟨by omega, fun e => ?_⟩
          rcases h4 with g4 | g4
          · rcases Nat.lt_or_ge y O with g5 | g5
            · have := pc_less hO g5 ((hV y (by omega)).mp vy).1
              rw [g4] at e
              omega
            · omega
          · omega
  obtain ⟨x, h1, h2, h3, -, h5⟩ := key (O + 1) (Nat.le_refl _)
  exact ⟨x, h1, h2, h3, fun y hy vy => h5 y (by omega) vy⟩
theorem few_md {m : MdS} {n s O : Nat} (hO : O < 256) (hoth : dOth m n s = nI O) (V : Nat → Prop) (hV : ∀ k, k ≤ O → (V k ↔ (k &&& O = k ∧ dLo m n (nI O &&& (nI k ^^^ (-1))) 0 < dSt m s 0))) (hVO : V O) : ∃ x, dFew m n s (O + 1) 0 = nI x ∧ stB V O x := by
  have key : ∀ f, f ≤ O + 1 → ∃ x, dFewL m n s (O + 1) f = nI x ∧ x ≤ O ∧ V x ∧ ∀ y, O + 1 - f ≤ y → y ≤ O → V y → pcN x ≤ pcN y ∧ (pcN y = pcN x → x ≤ y) := by
    intro f
    induction f with
    | zero => exact fun _ => ⟨O, hoth, Nat.le_refl _, hVO, fun y h1 h2 => by omega⟩
    | succ f ih =>
      intro hf
      obtain ⟨x, h1, h2, h3, h5⟩ := ih (by omega)
      obtain ⟨k, hk⟩ : ∃ k, k = O + 1 - (f + 1) := ⟨_, rfl⟩
      rw [dFewL, h1, hoth, ← hk]
      have hbb : ∀ {A B : Int32}, (if bitsK (nI x) < bitsK (nI k) then A else B) = (if pcN x < pcN k then A else B) := by
        intro A B
        have e : (bitsK (nI x) < bitsK (nI k)) ↔ pcN x < pcN k := by
          rw [pc_k (by omega), pc_k (by omega)]
          have g1 := pc_lt x
          have g2 := pc_lt k
          exact nI_ltI (by omega) (by omega)
        by_cases c : pcN x < pcN k
        · rw [if_pos c, if_pos (e.mpr c)]
        · rw [if_neg c, if_neg (fun g => c (e.mp g))]
      rw [hbb]
      by_cases c2 : k &&& O = k
      · rw [if_pos ((sub_iff (by omega) hO).mpr c2)]
        by_cases c1 : pcN x < pcN k
        · rw [if_pos c1]
          refine ⟨x, rfl, h2, h3, fun y g1 g2 vy => ?_⟩
          rcases Nat.lt_or_ge y (k + 1) with g | g
          · have : y = k := by omega
            subst this
            omega
          · exact h5 y (by omega) g2 vy
        · rw [if_neg c1]
          by_cases c3 : dLo m n (nI O &&& (nI k ^^^ (-1))) 0 < dSt m s 0
          · rw [if_pos c3]
            refine ⟨k, rfl, by omega, (hV k (by omega)).mpr ⟨c2, c3⟩, fun y g1 g2 vy => ?_⟩
            rcases Nat.lt_or_ge y (k + 1) with g | g
            · have : y = k := by omega
              subst this
              exact ⟨Nat.le_refl _, fun _ => Nat.le_refl _⟩
            · have := h5 y (by omega) g2 vy
              omega
          · rw [if_neg c3]
            refine ⟨x, rfl, h2, h3, fun y g1 g2 vy => ?_⟩
            rcases Nat.lt_or_ge y (k + 1) with g | g
            · have : y = k := by omega
              subst this
              exact absurd ((hV y (by omega)).mp vy).2 c3
            · exact h5 y (by omega) g2 vy
      · rw [if_neg (fun g => c2 ((sub_iff (by omega) hO).mp g))]
        refine ⟨x, rfl, h2, h3, fun y g1 g2 vy => ?_⟩
        rcases Nat.lt_or_ge y (k + 1) with g | g
        · have : y = k := by omega
          subst this
          exact absurd ((hV y (by omega)).mp vy).1 c2
        · exact h5 y (by omega) g2 vy
  obtain ⟨x, h1, h2, h3, h5⟩ := key (O + 1) (Nat.le_refl _)
  refine ⟨x, ?_, h2, h3, fun y hy vy => h5 y (by omega) hy vy⟩
  unfold dFew
  exact h1
theorem q_stills {n N : Nat} {h : HaS} {m : MdS} (r : rQ n N h m) (s : Int32) : xStR h n s = yStR m n s := by
  have hn8 : n ≤ 8 := r.2.2.2.2.2.2.2.2.1
  have hsa : h.mo.sayings = m.st 1 := r.2.2.2.2.2.2.2.2.2.2.1
  have hsn : h.mo.sayings = nI n := r.2.2.2.2.2.2.2.2.2.2.2.1
  unfold xStR yStR
  rw [← hsa]
  by_cases c : wIn s 0 (h.mo.sayings - 1) = true
  · rw [if_pos c, if_pos c]
    obtain ⟨hs, es⟩ := wIn_nat hsn hn8 c
    generalize s.toNatClampNeg = t at hs
    rw [q_st r hs]
    by_cases c2 : dSt m t 0 = 0
    · rw [if_pos c2, if_pos c2]
    · rw [if_neg c2, if_neg c2]
      have eo : hOth (hLis h n 0) n t = dOth m n t := by
        unfold hOth dOth
        show hSndB (hLis h n 0) n (lsF (fun s => hPlace h s 0) h.ats n t) &&& _ = _
        rw [lsF_in hs, q_snd r, q_pl r hs]
      obtain ⟨B, hB, eB⟩ := bits_nat (fun s => decide (0 < dSt m s 0) && decide (dPl m s 0 = dPl m t 0)) n (by omega)
      have hB8 : B < 256 := Nat.lt_of_lt_of_le hB (show 2 ^ n ≤ 2 ^ 8 from Nat.pow_le_pow_right (by omega) hn8)
      have eB : dSn m n (dPl m t 0) 0 = nI B := eB
      obtain ⟨O, hO, eO⟩ : ∃ O, O < 256 ∧ dOth m n t = nI O := by
        refine ⟨B &&& (255 - 2 ^ t), Nat.lt_of_le_of_lt Nat.and_le_left hB8, ?_⟩
        unfold dOth
        rw [eB, ← nI_and]
        have ex : ∀ t : Fin 8, ∀ i : Fin 32, i.val < 8 → bt (((1 : Int32) <<< (nI t.val &&& 31)) ^^^ (-1)) i.val = bt (nI (255 - 2 ^ t.val)) i.val := by decide +kernel
        apply b_ext
        intro i hi
        rw [b_and, b_and]
        rcases Nat.lt_or_ge i 8 with h8 | h8
        · rw [ex ⟨t, by omega⟩ ⟨i, hi⟩ h8]
        · have : bt (nI B) i = false := by
            rw [bt_nI _ hi]
            exact Nat.testBit_lt_two_pow (Nat.lt_of_lt_of_le hB8 (show 2 ^ 8 ≤ 2 ^ i from Nat.pow_le_pow_right (by omega) h8))
          rw [this, Bool.false_and, Bool.false_and]
      rw [eo, eO, nI_clamp (by omega)]
      have estr : (hLis h n 0).str t = dSt m t 0 := by
        show lsF (fun s => hStr h s 0) h.str n t = _
        rw [lsF_in hs, q_st r hs]
      have hpos : 0 < dSt m t 0 := by
        rcases q_str0 h t 0 with z | z
        · rw [q_st r hs] at z
          exact absurd z c2
        · rw [q_st r hs] at z
          exact z
      have hz : dLo m n (nI O &&& (nI O ^^^ (-1))) 0 = 0 := by
        have e0 : nI O &&& (nI O ^^^ (-1)) = 0 := (sub_iff hO hO).mpr (Nat.and_self O)
        rw [e0]
        unfold dLo
        have : ∀ j, j ≤ 32 → sumOf (fun s => hasB 0 (nI s)) (fun s => dSt m s 0) j = 0 := by
          intro j
          induction j with
          | zero => exact fun _ => rfl
          | succ j ih =>
            intro hj
            rw [sumOf, hasB_bt _ (by omega), b_0, ih (by omega)]
            rfl
        exact this n (by omega)
      obtain ⟨x, hx1, hx2⟩ := few_cl (h := hLis h n 0) (n := n) (s := t) hO (fun k => k &&& O = k ∧ hStrOf (hLis h n 0) n (nI O &&& (nI k ^^^ (-1))) < (hLis h n 0).str t) (fun k _ => Iff.rfl) ⟨Nat.and_self O, by rw [q_of r, hz, estr]; exact hpos⟩
      obtain ⟨y, hy1, hy2⟩ := few_md (m := m) (n := n) (s := t) hO eO (fun k => k &&& O = k ∧ hStrOf (hLis h n 0) n (nI O &&& (nI k ^^^ (-1))) < (hLis h n 0).str t) (fun k _ => by rw [q_of r, estr]) ⟨Nat.and_self O, by rw [q_of r, hz, estr]; exact hpos⟩
      rw [hx1, hy1, stB_one hx2 hy2]
  · rw [if_neg c, if_neg c]
