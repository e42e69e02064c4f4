/-! ===== numbers and bits (rows began as those of kit/laws: BITS, NUMBERS, COUNTS) ===== -/
theorem pn_lt (a b : Int32) : a < b ↔ a.toInt < b.toInt := Int32.lt_iff_toInt_lt
theorem pn_le (a b : Int32) : a ≤ b ↔ a.toInt ≤ b.toInt := Int32.le_iff_toInt_le
theorem pn_eq (a b : Int32) : a = b ↔ a.toInt = b.toInt := Int32.toInt_inj.symm
theorem pn_rng (x : Int32) : -2147483648 ≤ x.toInt ∧ x.toInt < 2147483648 := by
  have h1 := Int32.le_toInt x
  have h2 := Int32.toInt_lt x
  omega
theorem pn_bmod {z : Int} (h1 : -2147483648 ≤ z) (h2 : z < 2147483648) : z.bmod (2 ^ 32) = z := by
  rw [Int.bmod_eq_of_le (by omega) (by omega)]
theorem pn_add {x y : Int32} (h1 : -2147483648 ≤ x.toInt + y.toInt) (h2 : x.toInt + y.toInt < 2147483648) : (x + y).toInt = x.toInt + y.toInt := by
  rw [Int32.toInt_add, pn_bmod h1 h2]
theorem pn_sub {x y : Int32} (h1 : -2147483648 ≤ x.toInt - y.toInt) (h2 : x.toInt - y.toInt < 2147483648) : (x - y).toInt = x.toInt - y.toInt := by
  rw [Int32.toInt_sub, pn_bmod h1 h2]
theorem pn_mul {x y : Int32} (h1 : -2147483648 ≤ x.toInt * y.toInt) (h2 : x.toInt * y.toInt < 2147483648) : (x * y).toInt = x.toInt * y.toInt := by
  rw [Int32.toInt_mul, pn_bmod h1 h2]
theorem pn_0 : (0 : Int32).toInt = 0 := by decide
theorem pn_1 : (1 : Int32).toInt = 1 := by decide
theorem pn_2 : (2 : Int32).toInt = 2 := by decide
theorem pn_div {x y : Int32} (hy : 0 < y.toInt) : (x / y).toInt = x.toInt.tdiv y.toInt := Int32.toInt_div_of_ne_right x y (fun h => by rw [h] at hy; exact absurd hy (by decide))
theorem pn_remB (x : Int) {y : Int} (hy : 0 < y) : ∃ t r : Int, x.tdiv y = t ∧ x.tmod y = r ∧ r + t * y = x ∧ -y < r ∧ r < y ∧ (0 ≤ x → 0 ≤ r ∧ 0 ≤ t * y) ∧ (x ≤ 0 → r ≤ 0 ∧ t * y ≤ 0) := by
  refine ⟨_, _, rfl, rfl, Int.tmod_add_tdiv_mul x y, Int.lt_tmod_of_pos x hy, Int.tmod_lt_of_pos x hy, fun h => ⟨Int.tmod_nonneg y h, Int.mul_nonneg (Int.tdiv_nonneg h (Int.le_of_lt hy)) (Int.le_of_lt hy)⟩, fun h => ?_⟩
  have h2 := Int.tmod_nonneg y (a := -x) (by omega)
  have h3 := Int.mul_nonneg (Int.tdiv_nonneg (a := -x) (b := y) (by omega) (Int.le_of_lt hy)) (Int.le_of_lt hy)
  rw [Int.neg_tmod] at h2
  rw [Int.neg_tdiv, Int.neg_mul] at h3
  exact ⟨by omega, by omega⟩
theorem pn_rem {x y : Int32} (hy : 0 < y.toInt) : (x - x / y * y).toInt = x.toInt.tmod y.toInt := by
  have hx := pn_rng x
  obtain ⟨t, r, ht, hr, e, b1, b2, p1, p2⟩ := pn_remB x.toInt hy
  have hd := pn_div (x := x) hy
  rw [ht] at hd
  have hb : -2147483648 ≤ t * y.toInt ∧ t * y.toInt < 2147483648 := by
    rcases Int.le_total 0 x.toInt with h | h
    · have := p1 h
      omega
    · have := p2 h
      omega
  have hm : (x / y * y).toInt = t * y.toInt := by
    rw [pn_mul (by rw [hd]; exact hb.1) (by rw [hd]; exact hb.2), hd]
  rw [pn_sub (by rw [hm]; omega) (by rw [hm]; omega), hm, hr]
  omega
theorem pn_xneg {x y : Int32} (hy : 0 < y.toInt) : x ^^^ y < 0 ↔ x < 0 := by
  rw [pn_lt, pn_lt, pn_0]
  have e : (x ^^^ y).toBitVec.msb = (x.toBitVec.msb ^^ y.toBitVec.msb) := by rw [Int32.toBitVec_xor, BitVec.msb_xor]
  rw [BitVec.msb_eq_toInt, BitVec.msb_eq_toInt, BitVec.msb_eq_toInt] at e
  have e1 : decide ((x ^^^ y).toInt < 0) = (decide (x.toInt < 0) ^^ decide (y.toInt < 0)) := e
  rw [decide_eq_false (p := y.toInt < 0) (by omega), Bool.xor_false] at e1
  have := decide_eq_decide.mp e1
  exact this
/-- floorMod as the model reckons it -/
theorem pn_fm {x y : Int32} (hy : 0 < y.toInt) (hy2 : y.toInt ≤ 24) : jFm x y = (x - x / y * y + y) - (x - x / y * y + y) / y * y := by
  obtain ⟨r, hr⟩ : ∃ r : Int32, r = x - x / y * y := ⟨_, rfl⟩
  have hrI : r.toInt = x.toInt.tmod y.toInt := by rw [hr]; exact pn_rem hy
  obtain ⟨t0, r0, -, hr0, -, b1, b2, p1, p2⟩ := pn_remB x.toInt hy
  rw [hr0] at hrI
  have hw : (r + y).toInt = r.toInt + y.toInt := pn_add (by omega) (by omega)
  have hq : ((r + y) - (r + y) / y * y).toInt = (r + y).toInt.tmod y.toInt := pn_rem hy
  unfold jFm
  rw [← hr]
  rw [pn_eq, hq, hw]
  by_cases hx : x < 0
  · rw [if_pos ((pn_xneg hy).mpr hx)]
    have hx' : x.toInt ≤ 0 := by
      rw [pn_lt, pn_0] at hx
      omega
    have := p2 hx'
    by_cases h0 : r = 0
    · rw [if_pos h0, h0, pn_0, Int.zero_add, Int.tmod_self]
    · rw [if_neg h0, hw]
      have h1 : r.toInt ≠ 0 := fun e => h0 ((pn_eq _ _).mpr (by rw [e, pn_0]))
      rw [Int.tmod_eq_of_lt (by omega) (by omega)]
  · rw [if_neg (fun h => hx ((pn_xneg hy).mp h))]
    have hx' : 0 ≤ x.toInt := by
      rw [pn_lt, pn_0] at hx
      omega
    have := p1 hx'
    rw [Int.tmod_eq_emod_of_nonneg (by omega), Int.add_emod_right, Int.emod_eq_of_lt (by omega) (by omega)]
/-- where it is, is a place -/
theorem pn_fmR {x y : Int32} (hy : 0 < y.toInt) (hy2 : y.toInt ≤ 24) : 0 ≤ (jFm x y).toInt ∧ (jFm x y).toInt < y.toInt := by
  obtain ⟨r, hr⟩ : ∃ r : Int32, r = x - x / y * y := ⟨_, rfl⟩
  have hrI : r.toInt = x.toInt.tmod y.toInt := by rw [hr]; exact pn_rem hy
  obtain ⟨t0, r0, -, hr0, -, b1, b2, p1, p2⟩ := pn_remB x.toInt hy
  rw [hr0] at hrI
  have hw : (r + y).toInt = r.toInt + y.toInt := pn_add (by omega) (by omega)
  unfold jFm
  rw [← hr]
  by_cases hx : x < 0
  · rw [if_pos ((pn_xneg hy).mpr hx)]
    have hx' : x.toInt ≤ 0 := by
      rw [pn_lt, pn_0] at hx
      omega
    have := p2 hx'
    by_cases h0 : r = 0
    · rw [if_pos h0, h0, pn_0]
      omega
    · rw [if_neg h0, hw]
      have h1 : r.toInt ≠ 0 := fun e => h0 ((pn_eq _ _).mpr (by rw [e, pn_0]))
      omega
  · rw [if_neg (fun h => hx ((pn_xneg hy).mp h))]
    have hx' : 0 ≤ x.toInt := by
      rw [pn_lt, pn_0] at hx
      omega
    have := p1 hx'
    omega
/-! bits -/
def bt (x : Int32) (i : Nat) : Bool := x.toBitVec.getLsbD i
theorem b_ext {x y : Int32} (h : ∀ i, i < 32 → bt x i = bt y i) : x = y := Int32.toBitVec_inj.mp (BitVec.eq_of_getLsbD_eq (fun i hi => h i hi))
theorem b_or (x y : Int32) (i : Nat) : bt (x ||| y) i = (bt x i || bt y i) := by unfold bt; rw [Int32.toBitVec_or, BitVec.getLsbD_or]
theorem b_and (x y : Int32) (i : Nat) : bt (x &&& y) i = (bt x i && bt y i) := by unfold bt; rw [Int32.toBitVec_and, BitVec.getLsbD_and]
theorem b_xor (x y : Int32) (i : Nat) : bt (x ^^^ y) i = (bt x i ^^ bt y i) := by unfold bt; rw [Int32.toBitVec_xor, BitVec.getLsbD_xor]
theorem b_m1 : ∀ i, i < 32 → bt (-1) i = true := by decide +kernel
theorem b_0 (i : Nat) : bt 0 i = false := BitVec.getLsbD_zero
theorem b_1 : ∀ i, i < 32 → bt 1 i = decide (i = 0) := by decide +kernel
theorem s_l : ∀ n, n < 32 → ((nI n &&& 31).toBitVec.smod 32).toNat = n := by decide +kernel
theorem b_shl (n : Nat) (hn : n < 32) (x : Int32) {i : Nat} (hi : i < 32) : bt (x <<< (nI n &&& 31)) i = (decide (n ≤ i) && bt x (i - n)) := by
  unfold bt
  rw [Int32.toBitVec_shiftLeft]
  show (x.toBitVec <<< ((nI n &&& 31).toBitVec.smod 32).toNat).getLsbD i = _
  rw [s_l n hn, BitVec.getLsbD_shiftLeft]
  rcases Nat.lt_or_ge i n with h | h
  · simp [h, Nat.not_le.mpr h]
  · simp [hi, h, Nat.not_lt.mpr h]
theorem b_sshr (n : Nat) (hn : n < 32) (x : Int32) {i : Nat} (hi : i < 32) : bt (x >>> (nI n &&& 31)) i = if n + i < 32 then bt x (n + i) else bt x 31 := by
  unfold bt
  rw [Int32.toBitVec_shiftRight]
  show (x.toBitVec.sshiftRight ((nI n &&& 31).toBitVec.smod 32).toNat).getLsbD i = _
  rw [s_l n hn, BitVec.getLsbD_sshiftRight, BitVec.msb_eq_getLsbD_last]
  simp [hi]
theorem b_sh {n i : Nat} (hn : n < 32) (hi : i < 32) : bt ((1 : Int32) <<< (nI n &&& 31)) i = decide (i = n) := by
  rw [b_shl n hn 1 hi, b_1 (i - n) (by omega)]
  rcases Nat.lt_or_ge i n with h | h
  · rw [decide_eq_false (p := n ≤ i) (by omega), decide_eq_false (p := i = n) (by omega), Bool.false_and]
  · rw [decide_eq_true (p := n ≤ i) h, Bool.true_and]
    exact decide_eq_decide.mpr (by omega)
theorem b_and1 (z : Int32) : z &&& 1 = if bt z 0 then 1 else 0 := by
  rw [pk_and z (m := 1) 1 (by decide)]
  have e : bt z 0 = decide (z.toBitVec.toNat % 2 = 1) := by
    unfold bt
    rw [BitVec.getLsbD, Nat.testBit_zero]
  rw [e]
  rcases Nat.mod_two_eq_zero_or_one z.toBitVec.toNat with h | h
  · rw [show (2 : Nat) ^ 1 = 2 from rfl, h]
    rfl
  · rw [show (2 : Nat) ^ 1 = 2 from rfl, h]
    rfl
theorem b_bit (x : Int32) {s : Nat} (hs : s < 32) : (x >>> (nI s &&& 31)) &&& 1 = bI (bt x s) := by
  have e := b_sshr s hs x (i := 0) (by omega)
  rw [if_pos (by omega), Nat.add_zero] at e
  rw [b_and1, e]
  rfl
theorem hasB_bt (x : Int32) {s : Nat} (hs : s < 32) : hasB x (nI s) = bt x s := by
  unfold hasB
  rw [b_bit x hs]
  cases bt x s <;> decide
theorem bt_bitsOf (q : Nat → Bool) : ∀ (n : Nat), n ≤ 32 → ∀ i, i < 32 → bt (bitsOf q n) i = (decide (i < n) && q i)
  | 0, _, i, _ => by
    rw [bitsOf, b_0, decide_eq_false (by omega), Bool.false_and]
  | n + 1, hn, i, hi => by
    have ih := bt_bitsOf q n (by omega) i hi
    rw [bitsOf]
    by_cases hq : q n = true
    · rw [if_pos hq, b_or, ih, b_sh (by omega) hi]
      by_cases e : i = n
      · subst e
        simp [hq]
      · rw [decide_eq_false (p := i = n) e, Bool.or_false]
        congr 1
        exact decide_eq_decide.mpr (by omega)
    · rw [if_neg hq, ih]
      by_cases e : i = n
      · subst e
        simp at hq
        simp [hq]
      · congr 1
        exact decide_eq_decide.mpr (by omega)
theorem hasB_bitsOf (q : Nat → Bool) {n s : Nat} (hn : n ≤ 32) (hs : s < n) : hasB (bitsOf q n) (nI s) = q s := by
  rw [hasB_bt _ (by omega), bt_bitsOf q n hn s (by omega), decide_eq_true hs, Bool.true_and]
/-! rows of yes and no -/
theorem bO_cong {q p : Nat → Bool} : ∀ {n : Nat}, (∀ s, s < n → q s = p s) → bitsOf q n = bitsOf p n
  | 0, _ => rfl
  | n + 1, h => by rw [bitsOf, bitsOf, bO_cong (n := n) (fun s hs => h s (by omega)), h n (by omega)]
theorem cO_cong {q p : Nat → Bool} : ∀ {n : Nat}, (∀ s, s < n → q s = p s) → cntOf q n = cntOf p n
  | 0, _ => rfl
  | n + 1, h => by rw [cntOf, cntOf, cO_cong (n := n) (fun s hs => h s (by omega)), h n (by omega)]
theorem sO_cong {q p : Nat → Bool} {f g : Nat → Int32} : ∀ {n : Nat}, (∀ s, s < n → q s = p s) → (∀ s, s < n → f s = g s) → sumOf q f n = sumOf p g n
  | 0, _, _ => rfl
  | n + 1, h, h2 => by rw [sumOf, sumOf, sO_cong (n := n) (fun s hs => h s (by omega)) (fun s hs => h2 s (by omega)), h n (by omega), h2 n (by omega)]
theorem sO_zero {q p : Nat → Bool} {f : Nat → Int32} : ∀ {n : Nat}, (∀ s, s < n → q s = p s ∨ f s = 0) → sumOf q f n = sumOf p f n
  | 0, _ => rfl
  | n + 1, h => by
    have ih := sO_zero (q := q) (p := p) (f := f) (n := n) (fun s hs => h s (by omega))
    rw [sumOf, sumOf, ih]
    rcases h n (by omega) with e | e
    · rw [e]
    · rw [e, Int32.add_zero]
      simp
theorem fF_cong {q p : Nat → Bool} : ∀ {f a : Nat}, (∀ i, a ≤ i → i < a + f → q i = p i) → firstF q f a = firstF p f a
  | 0, _, _ => rfl
  | f + 1, a, h => by rw [firstF, firstF, h a (by omega) (by omega), fF_cong (f := f) (a := a + 1) (fun i h1 h2 => h i (by omega) (by omega))]
theorem lI_cong {q p : Nat → Bool} : ∀ {n : Nat}, (∀ s, s < n → q s = p s) → lastI q n = lastI p n
  | 0, _ => rfl
  | n + 1, h => by rw [lastI, lastI, lI_cong (n := n) (fun s hs => h s (by omega)), h n (by omega)]
theorem aO_cong {q p : Nat → Bool} : ∀ {n : Nat}, (∀ s, s < n → q s = p s) → allOf q n = allOf p n
  | 0, _ => rfl
  | n + 1, h => by rw [allOf, allOf, aO_cong (n := n) (fun s hs => h s (by omega)), h n (by omega)]
theorem fF_some {q : Nat → Bool} : ∀ {f a i : Nat}, a ≤ i → i < a + f → q i = true → (∀ j, a ≤ j → j < i → q j = false) → firstF q f a = some i
  | 0, a, i, h1, h2, _, _ => by omega
  | f + 1, a, i, h1, h2, h3, h4 => by
    rw [firstF]
    by_cases e : a = i
    · subst e
      rw [if_pos h3]
    · rw [if_neg (by rw [h4 a (Nat.le_refl _) (by omega)]; decide)]
      exact fF_some (by omega) (by omega) h3 (fun j a1 a2 => h4 j (by omega) a2)
theorem fF_none {q : Nat → Bool} : ∀ {f a : Nat}, (∀ j, a ≤ j → j < a + f → q j = false) → firstF q f a = none
  | 0, _, _ => rfl
  | f + 1, a, h => by
    rw [firstF, if_neg (by rw [h a (Nat.le_refl _) (by omega)]; decide)]
    exact fF_none (fun j h1 h2 => h j (by omega) (by omega))
theorem fF_bd {q : Nat → Bool} : ∀ {f a i : Nat}, firstF q f a = some i → a ≤ i ∧ i < a + f ∧ q i = true
  | 0, _, _, h => by cases h
  | f + 1, a, i, h => by
    rw [firstF] at h
    by_cases e : q a = true
    · rw [if_pos e] at h
      cases h
      exact ⟨Nat.le_refl _, by omega, e⟩
    · rw [if_neg e] at h
      have := fF_bd h
      exact ⟨by omega, by omega, this.2.2⟩
theorem lI_some {q : Nat → Bool} : ∀ {n i : Nat}, i < n → q i = true → (∀ j, i < j → j < n → q j = false) → lastI q n = nI i
  | 0, i, h, _, _ => by omega
  | n + 1, i, h, h2, h3 => by
    rw [lastI]
    by_cases e : i = n
    · subst e
      rw [if_pos h2]
    · rw [if_neg (by rw [h3 n (by omega) (by omega)]; decide)]
      exact lI_some (by omega) h2 (fun j a b => h3 j a (by omega))
theorem lI_none {q : Nat → Bool} : ∀ {n : Nat}, (∀ j, j < n → q j = false) → lastI q n = -9
  | 0, _ => rfl
  | n + 1, h => by
    rw [lastI, if_neg (by rw [h n (by omega)]; decide)]
    exact lI_none (fun j hj => h j (by omega))
/-- the first and the last of at most one -/
theorem fl_one {q : Nat → Bool} {n : Nat} (h : ∀ i j, i < n → j < n → q i = true → q j = true → i = j) : oI (firstF q n 0) = lastI q n := by
  by_cases e : ∃ i, i < n ∧ q i = true
  · obtain ⟨i, hi, hq⟩ := e
    have hf : ∀ j, j < n → j ≠ i → q j = false := by
      intro j hj hne
      cases hj2 : q j
      · rfl
      · exact absurd (h j i hj hi hj2 hq) hne
    rw [fF_some (Nat.zero_le _) (by omega) hq (fun j _ h2 => hf j (by omega) (by omega)), lI_some hi hq (fun j a b => hf j b (by omega))]
    rfl
  · have hf : ∀ j, j < n → q j = false := by
      intro j hj
      cases hj2 : q j
      · rfl
      · exact absurd ⟨j, hj, hj2⟩ e
    rw [fF_none (fun j _ b => hf j (by omega)), lI_none hf]
    rfl
theorem cF_succ (q : Nat → Bool) : ∀ (f a : Nat), cF q (f + 1) a = cF q f a + (if q (a + f) then 1 else 0)
  | 0, a => by
    show (if q a then 0 + 1 else 0) = 0 + (if q a then 1 else 0)
    split <;> rfl
  | f + 1, a => by
    have ih := cF_succ q f (a + 1)
    rw [cF, ih, show a + 1 + f = a + (f + 1) by omega]
    conv => rhs; rw [cF]
    by_cases e : q a = true
    · rw [if_pos e, if_pos e]
      omega
    · rw [if_neg e, if_neg e]
theorem cF_cnt (q : Nat → Bool) : ∀ n : Nat, cF q n 0 = cntOf q n
  | 0 => rfl
  | n + 1 => by
    rw [cF_succ, cF_cnt q n, cntOf, Nat.zero_add]
    split <;> rfl
/-! sums of small numbers -/
theorem sO_int {q : Nat → Bool} {f : Nat → Int32} : ∀ {n : Nat}, n ≤ 8 → (∀ s, s < n → 0 ≤ (f s).toInt ∧ (f s).toInt ≤ 30) → 0 ≤ (sumOf q f n).toInt ∧ (sumOf q f n).toInt ≤ 30 * n
  | 0, _, _ => by
    rw [sumOf, pn_0]
    omega
  | n + 1, hn, h => by
    have ih := sO_int (q := q) (f := f) (n := n) (by omega) (fun s hs => h s (by omega))
    have h1 := h n (by omega)
    rw [sumOf]
    split
    · rw [pn_add (by omega) (by omega)]
      omega
    · omega
theorem sO_one {q : Nat → Bool} {f : Nat → Int32} : ∀ {n i : Nat}, n ≤ 8 → (∀ s, s < n → 0 ≤ (f s).toInt ∧ (f s).toInt ≤ 30) → i < n → q i = true → (f i).toInt ≤ (sumOf q f n).toInt
  | 0, _, _, _, h, _ => by omega
  | n + 1, i, hn, h, hi, hq => by
    have b := sO_int (q := q) (f := f) (n := n) (by omega) (fun s hs => h s (by omega))
    have h1 := h n (by omega)
    rw [sumOf]
    by_cases e : i = n
    · subst e
      rw [if_pos hq, pn_add (by omega) (by omega)]
      omega
    · have ih := sO_one (q := q) (f := f) (n := n) (i := i) (by omega) (fun s hs => h s (by omega)) (by omega) hq
      split
      · rw [pn_add (by omega) (by omega)]
        omega
      · exact ih
theorem sO_two {q : Nat → Bool} {f : Nat → Int32} : ∀ {n i j : Nat}, n ≤ 8 → (∀ s, s < n → 0 ≤ (f s).toInt ∧ (f s).toInt ≤ 30) → i < j → j < n → q i = true → q j = true → (f i).toInt + (f j).toInt ≤ (sumOf q f n).toInt
  | 0, _, _, _, _, _, h, _, _ => by omega
  | n + 1, i, j, hn, h, hij, hj, hqi, hqj => by
    have b := sO_int (q := q) (f := f) (n := n) (by omega) (fun s hs => h s (by omega))
    have h1 := h n (by omega)
    rw [sumOf]
    by_cases e : j = n
    · subst e
      have o := sO_one (q := q) (f := f) (n := j) (i := i) (by omega) (fun s hs => h s (by omega)) hij hqi
      rw [if_pos hqj, pn_add (by omega) (by omega)]
      omega
    · have ih := sO_two (q := q) (f := f) (n := n) (i := i) (j := j) (by omega) (fun s hs => h s (by omega)) hij (by omega) hqi hqj
      split
      · rw [pn_add (by omega) (by omega)]
        omega
      · exact ih
theorem wIn_iff (x lo hi : Int32) : wIn x lo hi = true ↔ lo.toInt ≤ x.toInt ∧ x.toInt ≤ hi.toInt := by
  unfold wIn
  rw [Bool.and_eq_true, Bool.not_eq_true', Bool.not_eq_true', decide_eq_false_iff_not, decide_eq_false_iff_not, pn_lt, pn_lt]
  omega
theorem jBcK : ∀ k : Fin 256, jBc (nI k.val) = bitsK (nI k.val) := by decide +kernel
