/-! ===== odds ===== -/
def sI (f : Nat → Int) : Nat → Int
  | 0 => 0
  | n + 1 => sI f n + f n
theorem sI_cong {f g : Nat → Int} : ∀ {n : Nat}, (∀ k, k < n → f k = g k) → sI f n = sI g n
  | 0, _ => rfl
  | n + 1, h => by rw [sI, sI, sI_cong (n := n) (fun k hk => h k (by omega)), h n (by omega)]
theorem sI_split (f : Nat → Int) (a : Nat) : ∀ b, sI f (a + b) = sI f a + sI (fun k => f (a + k)) b
  | 0 => by rw [Nat.add_zero, sI, Int.add_zero]
  | b + 1 => by
    rw [← Nat.add_assoc, sI, sI_split f a b, sI]
    omega
theorem sI_mul (c : Int) (f : Nat → Int) : ∀ n, sI (fun k => c * f k) n = c * sI f n
  | 0 => by rw [sI, sI, Int.mul_zero]
  | n + 1 => by rw [sI, sI, sI_mul c f n, Int.mul_add]
theorem sI_zero {f : Nat → Int} : ∀ {n : Nat}, (∀ k, k < n → f k = 0) → sI f n = 0
  | 0, _ => rfl
  | n + 1, h => by rw [sI, sI_zero (n := n) (fun k hk => h k (by omega)), h n (by omega), Int.add_zero]
/-- of one set of laps -/
def prI (X : Int) (b : Nat) : Nat → Int
  | 0 => 1
  | k + 1 => prI X b k * (if b.testBit k then X else 10 - X)
theorem prI_bd {X : Int} (h0 : 0 ≤ X) (h1 : X ≤ 10) (b : Nat) : ∀ k, 0 ≤ prI X b k ∧ prI X b k ≤ 10 ^ k
  | 0 => ⟨by rw [prI]; decide, by rw [prI]; exact Int.le_refl _⟩
  | k + 1 => by
    obtain ⟨a1, a2⟩ := prI_bd h0 h1 b k
    rw [prI, Int.pow_succ]
    have hf : 0 ≤ (if b.testBit k then X else 10 - X) ∧ (if b.testBit k then X else 10 - X) ≤ 10 := by split <;> omega
    exact ⟨Int.mul_nonneg a1 hf.1, Int.mul_le_mul a2 hf.2 hf.1 (Int.le_trans a1 a2)⟩
theorem pw_6 {k : Nat} (h : k ≤ 6) : (10 : Int) ^ k ≤ 1000000 := by
  have : ∀ k : Fin 7, (10 : Int) ^ k.val ≤ 1000000 := by decide
  exact this ⟨k, by omega⟩
theorem prD_int {x : Int32} {X : Int} (hX : x.toInt = X) (h0 : 0 ≤ X) (h1 : X ≤ 10) {b : Nat} : ∀ k, k ≤ 6 → (prD x (nI b) k).toInt = prI X b k
  | 0, _ => by rw [prD, prI, pn_1]
  | k + 1, hk => by
    have ih := prD_int hX h0 h1 (b := b) k (by omega)
    obtain ⟨a1, a2⟩ := prI_bd h0 h1 b k
    have p6 := pw_6 (k := k) (by omega)
    have hf : (if hasB (nI b) (nI k) then x else 10 - x).toInt = if b.testBit k then X else 10 - X := by
      rw [hasB_bt _ (by omega), bt_nI _ (by omega)]
      split
      · exact hX
      · rw [pn_sub (by rw [hX, show (10 : Int32).toInt = 10 by decide]; omega) (by rw [hX, show (10 : Int32).toInt = 10 by decide]; omega), hX]
        rfl
    have hg : 0 ≤ (if b.testBit k then X else 10 - X) ∧ (if b.testBit k then X else 10 - X) ≤ 10 := by split <;> omega
    rw [prD, prI]
    generalize (if b.testBit k then X else 10 - X) = F at hf hg
    have b1 : 0 ≤ prI X b k * F := Int.mul_nonneg a1 hg.1
    have b2 : prI X b k * F ≤ 1000000 * 10 := Int.mul_le_mul (by omega) hg.2 hg.1 (by omega)
    rw [pn_mul (by rw [ih, hf]; omega) (by rw [ih, hf]; omega), ih, hf]
/-- the sums, as whole numbers -/
def upC (L X S : Int) (Q i : Nat) : Int := if 0 < S - L * (Q + pcN i) then prI X i Q else 0
theorem upC_bd {L X S : Int} (h0 : 0 ≤ X) (h1 : X ≤ 10) (Q i : Nat) : 0 ≤ upC L X S Q i ∧ upC L X S Q i ≤ 10 ^ Q := by
  have := prI_bd h0 h1 i Q
  unfold upC
  split
  · exact this
  · exact ⟨Int.le_refl _, Int.le_trans this.1 this.2⟩
theorem sI_bd {f : Nat → Int} {c : Int} : ∀ {n : Nat}, (∀ k, k < n → 0 ≤ f k ∧ f k ≤ c) → 0 ≤ sI f n ∧ sI f n ≤ n * c
  | 0, _ => by rw [sI]; omega
  | n + 1, h => by
    have ih := sI_bd (n := n) (fun k hk => h k (by omega))
    have h1 := h n (by omega)
    rw [sI, show ((n + 1 : Nat) : Int) = (n : Int) + 1 by omega, Int.add_mul]
    omega
theorem upS_int {m : MdS} {its nn x : Int32} {L X S : Int} {Q : Nat} (hX : x.toInt = X) (h0 : 0 ≤ X) (h1 : X ≤ 10) (hL : m.loss.toInt = L) (hL1 : 1 ≤ L) (hL2 : L ≤ 9) (hS : its.toInt = S) (hS0 : 0 ≤ S) (hS1 : S ≤ 30) (hQ : nn = nI Q) (hQ6 : Q ≤ 6) : ∀ i, i ≤ 64 → (upS m its nn x i).toInt = sI (upC L X S Q) i
  | 0, _ => by rw [upS, sI, pn_0]
  | i + 1, hi => by
    have ih := upS_int hX h0 h1 hL hL1 hL2 hS hS0 hS1 hQ hQ6 i (by omega)
    have p6 := pw_6 hQ6
    have bd := sI_bd (f := upC L X S Q) (c := 10 ^ Q) (n := i) (fun k _ => upC_bd h0 h1 Q k)
    have bc := upC_bd (L := L) (S := S) h0 h1 Q i
    have bm : (i : Int) * 10 ^ Q ≤ 64 * 1000000 := Int.mul_le_mul (by omega) p6 (Int.le_trans bc.1 bc.2) (by omega)
    have hp := pc_lt i
    have e1 : (nn + bitsK (nI i)).toInt = (Q : Int) + pcN i := by
      rw [hQ, pc_k (by omega), nI_add, nI_toInt (by omega)]
      omega
    obtain ⟨w, hw⟩ : ∃ w : Int, w = (Q : Int) + pcN i := ⟨_, rfl⟩
    have w0 : 0 ≤ L * w := Int.mul_nonneg (by omega) (by omega)
    have w1 : L * w ≤ 9 * 14 := Int.mul_le_mul hL2 (by omega) (by omega) (by omega)
    have e2 : (m.loss * (nn + bitsK (nI i))).toInt = L * w := by
      rw [pn_mul (by rw [e1, hL, ← hw]; omega) (by rw [e1, hL, ← hw]; omega), e1, hL, ← hw]
    have e3 : (its - m.loss * (nn + bitsK (nI i))).toInt = S - L * w := by
      rw [pn_sub (by rw [e2, hS]; omega) (by rw [e2, hS]; omega), e2, hS]
    have e4 : (if 0 < its - m.loss * (nn + bitsK (nI i)) then prD x (nI i) nn.toNatClampNeg else 0).toInt = upC L X S Q i := by
      unfold upC
      rw [← hw]
      by_cases c : 0 < S - L * w
      · rw [if_pos c, if_pos (by rw [pn_lt, e3, pn_0]; exact c), hQ, nI_clamp (by omega), prD_int hX h0 h1 Q hQ6]
      · rw [if_neg c, if_neg (by rw [pn_lt, e3, pn_0]; exact c), pn_0]
    rw [upS, sI, pn_add (by rw [ih, e4]; omega) (by rw [ih, e4]; omega), ih, e4]
theorem alS_int {x : Int32} {X : Int} {Q : Nat} (hX : x.toInt = X) (h0 : 0 ≤ X) (h1 : X ≤ 10) (hQ6 : Q ≤ 6) : ∀ i, i ≤ 64 → (alS x Q i).toInt = sI (fun k => prI X k Q) i
  | 0, _ => by rw [alS, sI, pn_0]
  | i + 1, hi => by
    have ih := alS_int hX h0 h1 hQ6 i (by omega)
    have p6 := pw_6 hQ6
    have bd := sI_bd (f := fun k => prI X k Q) (c := 10 ^ Q) (n := i) (fun k _ => prI_bd h0 h1 k Q)
    have bc := prI_bd h0 h1 i Q
    have bm : (i : Int) * 10 ^ Q ≤ 64 * 1000000 := Int.mul_le_mul (by omega) p6 (Int.le_trans bc.1 bc.2) (by omega)
    have e4 := prD_int hX h0 h1 (b := i) Q hQ6
    rw [alS, sI, pn_add (by rw [ih, e4]; omega) (by rw [ih, e4]; omega), ih, e4]
/-- what the class reckons -/
def lpI (L X : Int) : Nat → Int → Int
  | 0, S => if 0 < S then 1 else 0
  | n + 1, S => if 0 < S then (10 - X) * lpI L X n (S - L) + X * lpI L X n (S - 2 * L) else 0
theorem tb_all : ∀ n : Fin 6, ∀ j : Fin 64, j.val < 2 ^ n.val → pcN (2 ^ n.val + j.val) = pcN j.val + 1 ∧ (2 ^ n.val + j.val).testBit n.val = true ∧ (j.val).testBit n.val = false ∧ ∀ k : Fin 6, k.val < n.val → (2 ^ n.val + j.val).testBit k.val = (j.val).testBit k.val := by decide +kernel
theorem prI_top {X : Int} {n j : Nat} (hn : n < 6) (hj : j < 2 ^ n) : ∀ k, k ≤ n → prI X (2 ^ n + j) k = prI X j k
  | 0, _ => rfl
  | k + 1, hk => by
    have h64 : 2 ^ n ≤ 64 := Nat.pow_le_pow_right (n := 2) (by omega) (show n ≤ 6 by omega)
    have := (tb_all ⟨n, hn⟩ ⟨j, by omega⟩ hj).2.2.2 ⟨k, by omega⟩ (by show k < n; omega)
    rw [prI, prI, prI_top hn hj k (by omega), this]
theorem up_rec {L X S : Int} {n : Nat} (hn : n < 6) : sI (upC L X S (n + 1)) (2 ^ (n + 1)) = (10 - X) * sI (upC L X (S - L) n) (2 ^ n) + X * sI (upC L X (S - 2 * L) n) (2 ^ n) := by
  have h64 : 2 ^ n ≤ 64 := Nat.pow_le_pow_right (n := 2) (by omega) (show n ≤ 6 by omega)
  rw [show 2 ^ (n + 1) = 2 ^ n + 2 ^ n by rw [Nat.pow_succ]; omega, sI_split, ← sI_mul, ← sI_mul]
  congr 1
  · refine sI_cong (fun j hj => ?_)
    have t := tb_all ⟨n, hn⟩ ⟨j, by omega⟩ hj
    unfold upC
    have e : S - L * (((n + 1 : Nat) : Int) + pcN j) = S - L - L * ((n : Int) + pcN j) := by
      rw [show ((n + 1 : Nat) : Int) + pcN j = ((n : Int) + pcN j) + 1 by omega, Int.mul_add]
      omega
    rw [e]
    split
    · rw [prI, t.2.2.1, if_neg (by decide), Int.mul_comm]
    · rw [Int.mul_zero]
  · refine sI_cong (fun j hj => ?_)
    have t := tb_all ⟨n, hn⟩ ⟨j, by omega⟩ hj
    unfold upC
    have e : S - L * (((n + 1 : Nat) : Int) + pcN (2 ^ n + j)) = S - 2 * L - L * ((n : Int) + pcN j) := by
      rw [show pcN (2 ^ n + j) = pcN j + 1 from t.1, show ((n + 1 : Nat) : Int) + ((pcN j + 1 : Nat) : Int) = ((n : Int) + pcN j) + 2 by omega, Int.mul_add]
      omega
    rw [e]
    split
    · rw [prI, t.2.1, if_pos rfl, prI_top hn hj n (Nat.le_refl _), Int.mul_comm]
    · rw [Int.mul_zero]
theorem up_lp {L X : Int} (hL : 1 ≤ L) : ∀ (n : Nat), n ≤ 6 → ∀ S : Int, sI (upC L X S n) (2 ^ n) = lpI L X n S
  | 0, _, S => by
    show (0 : Int) + upC L X S 0 0 = lpI L X 0 S
    unfold upC
    rw [show pcN 0 = 0 from rfl, Int.zero_add, lpI, prI]
    simp
  | n + 1, hn, S => by
    rw [lpI]
    by_cases c : 0 < S
    · rw [if_pos c, up_rec (by omega), up_lp hL n (by omega), up_lp hL n (by omega)]
    · rw [if_neg c]
      refine sI_zero (fun k _ => ?_)
      unfold upC
      rw [if_neg]
      have : 0 ≤ L * (((n + 1 : Nat) : Int) + pcN k) := Int.mul_nonneg (by omega) (by omega)
      omega
theorem al_pw {X : Int} : ∀ (n : Nat), n ≤ 6 → sI (fun k => prI X k n) (2 ^ n) = 10 ^ n
  | 0, _ => rfl
  | n + 1, hn => by
    have h64 : 2 ^ n ≤ 64 := Nat.pow_le_pow_right (n := 2) (by omega) (show n ≤ 6 by omega)
    rw [show 2 ^ (n + 1) = 2 ^ n + 2 ^ n by rw [Nat.pow_succ]; omega, sI_split]
    have e1 : sI (fun k => prI X k (n + 1)) (2 ^ n) = (10 - X) * 10 ^ n := by
      rw [← al_pw n (by omega), ← sI_mul]
      refine sI_cong (fun j hj => ?_)
      have t := tb_all ⟨n, by omega⟩ ⟨j, by omega⟩ hj
      rw [prI, t.2.2.1, if_neg (by decide), Int.mul_comm]
    have e2 : sI (fun k => prI X (2 ^ n + k) (n + 1)) (2 ^ n) = X * 10 ^ n := by
      rw [← al_pw n (by omega), ← sI_mul]
      refine sI_cong (fun j hj => ?_)
      have t := tb_all ⟨n, by omega⟩ ⟨j, by omega⟩ hj
      rw [prI, t.2.1, if_pos rfl, prI_top (by omega) hj n (Nat.le_refl _), Int.mul_comm]
    rw [e1, e2, Int.pow_succ, ← Int.add_mul, Int.mul_comm]
    congr 1
    omega
theorem lpI_bd {L X : Int} (h0 : 0 ≤ X) (h1 : X ≤ 10) : ∀ (n : Nat) (S : Int), 0 ≤ lpI L X n S ∧ lpI L X n S ≤ 10 ^ n
  | 0, S => by
    rw [lpI]
    split
    · exact ⟨by decide, Int.le_refl _⟩
    · exact ⟨by decide, by decide⟩
  | n + 1, S => by
    obtain ⟨a1, a2⟩ := lpI_bd (L := L) h0 h1 n (S - L)
    obtain ⟨b1, b2⟩ := lpI_bd (L := L) h0 h1 n (S - 2 * L)
    have p0 : (0 : Int) ≤ 10 ^ n := Int.le_trans a1 a2
    rw [lpI, Int.pow_succ]
    split
    · have c1 : (10 - X) * lpI L X n (S - L) ≤ (10 - X) * 10 ^ n := Int.mul_le_mul_of_nonneg_left a2 (by omega)
      have c2 : X * lpI L X n (S - 2 * L) ≤ X * 10 ^ n := Int.mul_le_mul_of_nonneg_left b2 h0
      have c3 := Int.mul_nonneg (show 0 ≤ 10 - X by omega) a1
      have c4 := Int.mul_nonneg h0 b1
      have c5 : (10 - X) * 10 ^ n + X * 10 ^ n = 10 ^ n * 10 := by
        rw [← Int.add_mul, Int.mul_comm]
        congr 1
        omega
      omega
    · omega
theorem lpS_int {lo x : Int32} {L X : Int} (hX : x.toInt = X) (h0 : 0 ≤ X) (h1 : X ≤ 10) (hL : lo.toInt = L) (hL1 : 1 ≤ L) (hL2 : L ≤ 9) : ∀ (n : Nat), n ≤ 6 → ∀ st : Int32, (lpS lo x n st).toInt = lpI L X n st.toInt
  | 0, _, st => by
    rw [lpS, lpI]
    by_cases c : 0 < st
    · rw [if_pos c, if_pos (by rw [pn_lt, pn_0] at c; exact c), pn_1]
    · rw [if_neg c, if_neg (by rw [pn_lt, pn_0] at c; exact c), pn_0]
  | n + 1, hn, st => by
    rw [lpS, lpI]
    by_cases c : 0 < st
    · rw [if_pos c, if_pos (by rw [pn_lt, pn_0] at c; exact c)]
      rw [pn_lt, pn_0] at c
      have hr := pn_rng st
      have e1 : (st - lo).toInt = st.toInt - L := by rw [pn_sub (by omega) (by omega), hL]
      have e2 : (2 * lo).toInt = 2 * L := by rw [pn_mul (by rw [pn_2]; omega) (by rw [pn_2]; omega), pn_2, hL]
      have e3 : (st - 2 * lo).toInt = st.toInt - 2 * L := by rw [pn_sub (by omega) (by omega), e2]
      have i1 := lpS_int hX h0 h1 hL hL1 hL2 n (by omega) (st - lo)
      have i2 := lpS_int hX h0 h1 hL hL1 hL2 n (by omega) (st - 2 * lo)
      rw [e1] at i1
      rw [e3] at i2
      have p6 := pw_6 (k := n) (by omega)
      obtain ⟨a1, a2⟩ := lpI_bd (L := L) h0 h1 n (st.toInt - L)
      obtain ⟨b1, b2⟩ := lpI_bd (L := L) h0 h1 n (st.toInt - 2 * L)
      generalize lpI L X n (st.toInt - L) = A at *
      generalize lpI L X n (st.toInt - 2 * L) = B at *
      have c1 := Int.mul_nonneg (show 0 ≤ 10 - X by omega) a1
      have c2 := Int.mul_nonneg h0 b1
      have c3 : (10 - X) * A ≤ 10 * 1000000 := Int.mul_le_mul (by omega) (by omega) a1 (by omega)
      have c4 : X * B ≤ 10 * 1000000 := Int.mul_le_mul h1 (by omega) b1 (by omega)
      have f1 : (10 - x).toInt = 10 - X := by rw [pn_sub (by rw [hX, show (10 : Int32).toInt = 10 by decide]; omega) (by rw [hX, show (10 : Int32).toInt = 10 by decide]; omega), hX]; rfl
      have g1 : ((10 - x) * lpS lo x n (st - lo)).toInt = (10 - X) * A := by rw [pn_mul (by rw [f1, i1]; omega) (by rw [f1, i1]; omega), f1, i1]
      have g2 : (x * lpS lo x n (st - 2 * lo)).toInt = X * B := by rw [pn_mul (by rw [hX, i2]; omega) (by rw [hX, i2]; omega), hX, i2]
      rw [pn_add (by rw [g1, g2]; omega) (by rw [g1, g2]; omega), g1, g2]
    · rw [if_neg c, if_neg (by rw [pn_lt, pn_0] at c; exact c), pn_0]
/-! the common divisor -/
theorem gcd_step (a b : Nat) : Nat.gcd a b = Nat.gcd b (a % b) := by
  rw [Nat.gcd_comm, Nat.gcd_rec, Nat.gcd_comm]
theorem gc_a : ∀ (f a b : Nat), a < 2 ^ 31 → b < 2 ^ 31 → b < f → gcL f (nI a) (nI b) = nI (Nat.gcd a b)
  | 0, a, b, _, _, h => absurd h (Nat.not_lt_zero _)
  | f + 1, a, b, ha, hb, h => by
    rw [gcL]
    rcases Nat.eq_zero_or_pos b with e | e
    · subst e
      rw [if_neg (show ¬ 0 < nI 0 by decide), Nat.gcd_zero_right]
    · rw [if_pos (show (0 : Int32) < nI b from (nI_ltI (a := 0) (by omega) hb).mpr e), pk_rem ha e hb, gcd_step]
      have := Nat.mod_lt a e
      exact gc_a f b (a % b) hb (by omega) (by omega)
theorem gc_b : ∀ (f a b : Nat), a < 2 ^ 31 → b ≤ a → a * b < 2 ^ f → gcL f (nI a) (nI b) = nI (Nat.gcd a b)
  | 0, a, b, ha, hb, h => by
    have : b = 0 := by
      rcases Nat.eq_zero_or_pos b with e | e
      · exact e
      · have := Nat.mul_pos (show 0 < a by omega) e
        have : a * b < 1 := h
        omega
    subst this
    rw [gcL, Nat.gcd_zero_right]
  | f + 1, a, b, ha, hb, h => by
    rw [gcL]
    rcases Nat.eq_zero_or_pos b with e | e
    · subst e
      rw [if_neg (show ¬ 0 < nI 0 by decide), Nat.gcd_zero_right]
    · rw [if_pos (show (0 : Int32) < nI b from (nI_ltI (a := 0) (by omega) (by omega)).mpr e), pk_rem ha e (by omega), gcd_step]
      have h1 := Nat.mod_lt a e
      refine gc_b f b (a % b) (by omega) (by omega) ?_
      have h2 := Nat.div_add_mod a b
      have h3 : 1 ≤ a / b := (Nat.one_le_div_iff e).mpr hb
      have h4 : b * 1 ≤ b * (a / b) := Nat.mul_le_mul_left b h3
      have h5 : 2 * (a % b) ≤ a := by omega
      have h6 : b * (2 * (a % b)) ≤ b * a := Nat.mul_le_mul_left b h5
      rw [Nat.mul_comm b a, Nat.mul_left_comm] at h6
      rw [Nat.pow_succ] at h
      omega
theorem pw10_nat : ∀ n : Fin 7, pw10 n.val = nI (10 ^ n.val) := by decide +kernel
theorem nI_int {x : Int32} {n : Nat} (h : x.toInt = n) : x = nI n := by
  have hr := pn_rng x
  rw [pn_eq, nI_toInt (by omega), h]
theorem q_odds {n N : Nat} {h : HaS} {m : MdS} (r : rQ n N h m) (s nn x what : Int32) : xOdR h s nn x what = yOdR m s nn x what ∧ (wIn s 0 (m.st 1 - 1) = true → wIn nn 0 6 = true → wIn x 0 10 = true → ¬ yOdD m s nn x = 0) := by
  have hn8 : n ≤ 8 := r.2.2.2.2.2.2.2.2.1
  have hsa : h.mo.sayings = m.st 1 := r.2.2.2.2.2.2.2.2.2.2.1
  have hsn : h.mo.sayings = nI n := r.2.2.2.2.2.2.2.2.2.2.2.1
  have key : wIn s 0 (h.mo.sayings - 1) = true → wIn nn 0 6 = true → wIn x 0 10 = true → ∃ A B : Nat, A < 2 ^ 31 ∧ 0 < B ∧ B < 2 ^ 31 ∧ lpS h.loss x nn.toNatClampNeg (hStr h s.toNatClampNeg 0) = nI A ∧ pw10 nn.toNatClampNeg = nI B ∧ upS m (dSt m s.toNatClampNeg 0) nn x (2 ^ nn.toNatClampNeg) = nI A ∧ alS x nn.toNatClampNeg (2 ^ nn.toNatClampNeg) = nI B ∧ gcL 64 (nI B) (nI A) = nI (Nat.gcd A B) ∧ yOdD m s nn x = nI (Nat.gcd A B) := by
    intro c1 c2 c3
    obtain ⟨hs, es⟩ := wIn_nat hsn hn8 c1
    obtain ⟨hq6, hq⟩ := wIn_nn (k := 6) (by decide) c2
    have cx := (wIn_iff _ _ _).mp c3
    rw [pn_0, show (10 : Int32).toInt = 10 by decide] at cx
    have hst := q_strR r hs (k := 0) (by decide) (by decide)
    have est := q_st r hs 0
    have hl : h.loss = m.loss := r.2.1
    have l1 := r.2.2.2.2.2.2.1
    have l2 := r.2.2.2.2.2.2.2.1
    unfold yOdD
    rw [est] at hst ⊢
    rw [hl]
    generalize s.toNatClampNeg = t at *
    generalize nn.toNatClampNeg = Q at *
    have h64 : 2 ^ Q ≤ 64 := Nat.pow_le_pow_right (n := 2) (by omega) hq6
    have e1 := lpS_int (lo := m.loss) (x := x) rfl cx.1 cx.2 rfl l1 l2 Q hq6 (dSt m t 0)
    have e2 := upS_int (m := m) (its := dSt m t 0) (x := x) rfl cx.1 cx.2 rfl l1 l2 rfl hst.1 hst.2 hq hq6 (2 ^ Q) h64
    have e3 := alS_int (x := x) rfl cx.1 cx.2 hq6 (2 ^ Q) h64
    rw [up_lp l1 Q hq6] at e2
    rw [al_pw Q hq6] at e3
    obtain ⟨b1, b2⟩ := lpI_bd (L := m.loss.toInt) cx.1 cx.2 Q (dSt m t 0).toInt
    have p6 := pw_6 hq6
    obtain ⟨A, hA⟩ : ∃ A : Nat, lpI m.loss.toInt x.toInt Q (dSt m t 0).toInt = A := ⟨_, (Int.toNat_of_nonneg b1).symm⟩
    have hB : ((10 : Int) ^ Q) = ((10 ^ Q : Nat) : Int) := by rw [Int.natCast_pow]; rfl
    rw [hA] at e1 e2 b1 b2
    rw [hB] at e3 b2 p6
    have hBp : 0 < 10 ^ Q := Nat.pow_pos (by omega)
    have eB0 : pw10 Q = nI (10 ^ Q) := pw10_nat ⟨Q, by omega⟩
    generalize 10 ^ Q = B at *
    have hAB : A ≤ B := by omega
    have hB6 : B ≤ 1000000 := by omega
    have eB : pw10 Q = nI B := eB0
    refine ⟨A, B, by omega, hBp, by omega, nI_int e1, eB, nI_int e2, nI_int e3, ?_, ?_⟩
    · rw [Nat.gcd_comm]
      refine gc_b 64 B A (by omega) hAB ?_
      have : B * A ≤ 1000000 * 1000000 := Nat.mul_le_mul hB6 (by omega)
      exact Nat.lt_of_le_of_lt this (by decide)
    · rw [nI_int e2, nI_int e3, nI_clamp (by omega)]
      exact gc_a (B + 1) A B (by omega) (by omega) (by omega)
  constructor
  · unfold xOdR yOdR
    rw [← hsa]
    by_cases c1 : wIn s 0 (h.mo.sayings - 1) = true
    · rw [if_pos c1, if_pos c1]
      by_cases c2 : wIn nn 0 6 = true
      · rw [if_pos c2, if_pos c2]
        by_cases c3 : wIn x 0 10 = true
        · rw [if_pos c3, if_pos c3]
          by_cases c4 : wIn what 0 1 = true
          · rw [if_pos c4, if_pos c4]
            obtain ⟨A, B, hA, hB0, hB, f1, f2, f3, f4, f5, f6⟩ := key c1 c2 c3
            rw [f1, f2, f3, f4, f5, f6]
            have hg : 0 < Nat.gcd A B := Nat.gcd_pos_of_pos_right A hB0
            have hgB : Nat.gcd A B ≤ B := Nat.gcd_le_right A hB0
            rw [if_neg (fun q => by
              have := (nI_ltI (a := Nat.gcd A B) (b := 1) (by omega) (by omega)).mp q
              omega)]
          · rw [if_neg c4, if_neg c4]
        · rw [if_neg c3, if_neg c3]
      · rw [if_neg c2, if_neg c2]
    · rw [if_neg c1, if_neg c1]
  · intro c1 c2 c3
    rw [← hsa] at c1
    obtain ⟨A, B, hA, hB0, hB, f1, f2, f3, f4, f5, f6⟩ := key c1 c2 c3
    rw [f6]
    have hg : 0 < Nat.gcd A B := Nat.gcd_pos_of_pos_right A hB0
    have hgB : Nat.gcd A B ≤ B := Nat.gcd_le_right A hB0
    exact nI_ne0 hg (by omega)
