/-! ===== count: the bits of 24 ===== -/
theorem and_by {u v p q : Nat} (hu : u < 256) (hp : p < 256) : (u + 256 * v) &&& (p + 256 * q) = (u &&& p) + 256 * (v &&& q) := by
  have hup : u &&& p < 256 := Nat.lt_of_le_of_lt Nat.and_le_left hu
  apply Nat.eq_of_testBit_eq
  intro i
  rw [Nat.testBit_and, Nat.add_comm u, Nat.add_comm p, Nat.add_comm (u &&& p), show (256 : Nat) = 2 ^ 8 from rfl, Nat.testBit_two_pow_mul_add _ hu, Nat.testBit_two_pow_mul_add _ hp, Nat.testBit_two_pow_mul_add _ hup]
  split
  · rw [Nat.testBit_and]
  · rw [Nat.testBit_and]
def k1 (u : Nat) : Nat := u - (u / 2 &&& 85)
def k2 (u : Nat) : Nat := (k1 u &&& 51) + (k1 u / 4 &&& 51)
theorem k1_d : ∀ u : Fin 256, ∀ e : Fin 2, ((u.val / 2 + 128 * e.val) &&& 85) = (u.val / 2 &&& 85) ∧ (u.val / 2 &&& 85) ≤ u.val ∧ k1 u.val < 256 := by decide +kernel
theorem k2_d : ∀ u : Fin 256, ∀ e : Fin 4, ((u.val / 4 + 64 * e.val) &&& 51) = (u.val / 4 &&& 51) := by decide +kernel
theorem k3_d : ∀ u : Fin 256, k2 u.val ≤ 68 ∧ (k2 u.val + k2 u.val / 16) % 16 = pcN u.val ∧ k2 u.val % 16 ≤ 4 := by decide +kernel
theorem j1 {u v M : Nat} (hu : u < 256) : (u + 256 * v) - ((u + 256 * v) / 2 &&& (85 + 256 * M)) = k1 u + 256 * (v - (v / 2 &&& M)) := by
  have hd : (u + 256 * v) / 2 = (u / 2 + 128 * (v % 2)) + 256 * (v / 2) := by omega
  have h := k1_d ⟨u, hu⟩ ⟨v % 2, by omega⟩
  rw [hd, and_by (by omega) (by omega), h.1]
  have hv : v / 2 &&& M ≤ v := Nat.le_trans Nat.and_le_left (by omega)
  have h2 := h.2.1
  unfold k1
  simp only at h2
  generalize u / 2 &&& 85 = U at *
  generalize v / 2 &&& M = V at *
  omega
theorem j2 {u v M : Nat} (hu : u < 256) : ((u + 256 * v) &&& (51 + 256 * M)) + ((u + 256 * v) / 4 &&& (51 + 256 * M)) = ((u &&& 51) + (u / 4 &&& 51)) + 256 * ((v &&& M) + (v / 4 &&& M)) := by
  have hd : (u + 256 * v) / 4 = (u / 4 + 64 * (v % 4)) + 256 * (v / 4) := by omega
  have h := k2_d ⟨u, hu⟩ ⟨v % 4, by omega⟩
  rw [hd, and_by hu (by omega), and_by (by omega) (by omega), h]
  simp only
  generalize u / 4 &&& 51 = A
  generalize u &&& 51 = B
  generalize v &&& M = C
  generalize v / 4 &&& M = D
  omega
theorem and_bz {u p q : Nat} (hu : u < 256) (hp : p < 256) : u &&& (p + 256 * q) = u &&& p := by
  have h := and_by (v := 0) (q := q) hu hp
  rw [Nat.mul_zero, Nat.add_zero, Nat.zero_and, Nat.mul_zero, Nat.add_zero] at h
  exact h
theorem j1z {u M : Nat} (hu : u < 256) : u - (u / 2 &&& (85 + 256 * M)) = k1 u := by
  rw [and_bz (by omega) (by omega)]
  rfl
theorem j2z {u M : Nat} (hu : u < 256) : (u &&& (51 + 256 * M)) + (u / 4 &&& (51 + 256 * M)) = (u &&& 51) + (u / 4 &&& 51) := by
  rw [and_bz hu (by omega), and_bz (by omega) (by omega)]
/-- the JDK's bitCount, of three bytes -/
theorem jBc_24 {a b c : Nat} (ha : a < 256) (hb : b < 256) (hc : c < 256) : jBc (nI (a + 256 * (b + 256 * c))) = nI (pcN a + pcN b + pcN c) := by
  have u1 : ∀ n, n < 2 ^ 32 → jU (nI n) 1 = nI (n / 2) := fun n hn => pk_ushrN hn 1 1 (by decide)
  have u2 : ∀ n, n < 2 ^ 32 → jU (nI n) 2 = nI (n / 4) := fun n hn => pk_ushrN hn 2 2 (by decide)
  have u4 : ∀ n, n < 2 ^ 32 → jU (nI n) 4 = nI (n / 16) := fun n hn => pk_ushrN hn 4 4 (by decide)
  have u8 : ∀ n, n < 2 ^ 32 → jU (nI n) 8 = nI (n / 256) := fun n hn => pk_ushrN hn 8 8 (by decide)
  have u16 : ∀ n, n < 2 ^ 32 → jU (nI n) 16 = nI (n / 65536) := fun n hn => pk_ushrN hn 16 16 (by decide)
  obtain ⟨A1, hA1⟩ : ∃ x, x = k1 a := ⟨_, rfl⟩
  obtain ⟨B1, hB1⟩ : ∃ x, x = k1 b := ⟨_, rfl⟩
  obtain ⟨C1, hC1⟩ : ∃ x, x = k1 c := ⟨_, rfl⟩
  have lA := (k1_d ⟨a, ha⟩ 0).2.2
  have lB := (k1_d ⟨b, hb⟩ 0).2.2
  have lC := (k1_d ⟨c, hc⟩ 0).2.2
  simp only at lA lB lC
  rw [← hA1] at lA
  rw [← hB1] at lB
  rw [← hC1] at lC
  have e1 : jB1 (nI (a + 256 * (b + 256 * c))) = nI (A1 + 256 * (B1 + 256 * C1)) := by
    unfold jB1
    rw [u1 _ (by omega), show (1431655765 : Int32) = nI (85 + 256 * (85 + 256 * (85 + 256 * 85))) from rfl, nI_and, pk_sub (Nat.le_trans Nat.and_le_left (by omega)), j1 ha, j1 hb, j1z hc, hA1, hB1, hC1]
  obtain ⟨A2, hA2⟩ : ∃ x, x = k2 a := ⟨_, rfl⟩
  obtain ⟨B2, hB2⟩ : ∃ x, x = k2 b := ⟨_, rfl⟩
  obtain ⟨C2, hC2⟩ : ∃ x, x = k2 c := ⟨_, rfl⟩
  have mA := k3_d ⟨a, ha⟩
  have mB := k3_d ⟨b, hb⟩
  have mC := k3_d ⟨c, hc⟩
  simp only at mA mB mC
  rw [← hA2] at mA
  rw [← hB2] at mB
  rw [← hC2] at mC
  have e2 : jB2 (nI (A1 + 256 * (B1 + 256 * C1))) = nI (A2 + 256 * (B2 + 256 * C2)) := by
    unfold jB2
    rw [u2 _ (by omega), show (858993459 : Int32) = nI (51 + 256 * (51 + 256 * (51 + 256 * 51))) from rfl, nI_and, nI_and, nI_add, j2 lA, j2 lB, j2z lC, hA2, hB2, hC2]
    unfold k2
    rw [← hA1, ← hB1, ← hC1]
  have e3 : jB3 (nI (A2 + 256 * (B2 + 256 * C2))) = nI (pcN a + 256 * (pcN b + 256 * pcN c)) := by
    unfold jB3
    rw [u4 _ (by omega), nI_add, show (252645135 : Int32) = nI (15 + 256 * (15 + 256 * (15 + 256 * 15))) from rfl, nI_and]
    have hd : A2 + 256 * (B2 + 256 * C2) + (A2 + 256 * (B2 + 256 * C2)) / 16 = (A2 + A2 / 16 + 16 * (B2 % 16)) + 256 * ((B2 + B2 / 16 + 16 * (C2 % 16)) + 256 * (C2 + C2 / 16)) := by omega
    have h15 : ∀ y, y &&& 15 = y % 16 := fun y => Nat.and_two_pow_sub_one_eq_mod y 4
    rw [hd, and_by (by omega) (by omega), and_by (by omega) (by omega), and_bz (by omega) (by omega), h15, h15, h15]
    congr 1
    have q1 := mA.2.1
    have q2 := mB.2.1
    have q3 := mC.2.1
    omega
  have pa := pc_lt a
  have pb := pc_lt b
  have pc := pc_lt c
  have e4 : jB4 (nI (pcN a + 256 * (pcN b + 256 * pcN c))) = nI (pcN a + pcN b + 256 * (pcN b + pcN c + 256 * pcN c)) := by
    unfold jB4
    rw [u8 _ (by omega), nI_add]
    congr 1
    omega
  have e5 : jB5 (nI (pcN a + pcN b + 256 * (pcN b + pcN c + 256 * pcN c))) = nI (pcN a + pcN b + pcN c + 256 * (pcN b + pcN c + 256 * pcN c)) := by
    unfold jB5
    rw [u16 _ (by omega), nI_add]
    congr 1
    omega
  unfold jBc
  rw [e1, e2, e3, e4, e5, show (63 : Int32) = nI (2 ^ 6 - 1) from rfl, nI_and, Nat.and_two_pow_sub_one_eq_mod]
  congr 1
  omega
/-- Kernighan's -/
def popF : Nat → Nat → Nat
  | 0, _ => 0
  | f + 1, c => c % 2 + popF f (c / 2)
theorem popF_0 : ∀ f, popF f 0 = 0
  | 0 => rfl
  | f + 1 => by rw [popF, popF_0 f]
theorem popF_k : ∀ (f c : Nat), 0 < c → c < 2 ^ f → popF f (c &&& (c - 1)) + 1 = popF f c
  | 0, c, h0, h1 => by
    have : c < 1 := h1
    omega
  | f + 1, c, h0, h1 => by
    rw [popF, popF, Nat.and_div_two]
    rw [Nat.pow_succ] at h1
    rcases Nat.mod_two_eq_zero_or_one c with e | e
    · have h2 : (c &&& (c - 1)) % 2 = 0 := by
        rcases Nat.mod_two_eq_zero_or_one (c &&& (c - 1)) with q | q
        · exact q
        · have := (Nat.and_mod_two_eq_one.mp q).1
          omega
      have ih := popF_k f (c / 2) (by omega) (by omega)
      rw [h2, e, show (c - 1) / 2 = c / 2 - 1 by omega, ← ih]
      omega
    · have h2 : (c &&& (c - 1)) % 2 = 0 := by
        rcases Nat.mod_two_eq_zero_or_one (c &&& (c - 1)) with q | q
        · exact q
        · have := (Nat.and_mod_two_eq_one.mp q).2
          omega
      rw [h2, e, show (c - 1) / 2 = c / 2 by omega, Nat.and_self]
      omega
theorem kB_pop : ∀ (f c : Nat), c ≤ f → c < 2 ^ 24 → kBits f (nI c) = popF 24 c
  | 0, c, h, _ => by
    have : c = 0 := by omega
    subst this
    rw [popF_0]
    rfl
  | f + 1, c, h, hc => by
    rw [kBits]
    rcases Nat.eq_zero_or_pos c with e | e
    · subst e
      rw [if_pos (show nI 0 = 0 from rfl), popF_0]
    · rw [if_neg (nI_ne0 e (by omega)), show nI c - 1 = nI (c - 1) by rw [show (1 : Int32) = nI 1 from rfl, pk_sub (by omega)], nI_and, ← popF_k 24 c e hc]
      have hl : c &&& (c - 1) ≤ c - 1 := Nat.and_le_right
      rw [kB_pop f (c &&& (c - 1)) (by omega) (by omega)]
theorem popF_24 (c : Nat) : popF 24 c = pcN c + pcN (c / 256) + pcN (c / 65536) := by
  simp only [popF, pcN, Nat.div_div_eq_div_mul, Nat.reduceMul, Nat.add_zero]
  omega
theorem pcN_mod (c : Nat) : pcN (c % 256) = pcN c := by
  unfold pcN
  omega
theorem jBcK24 {c : Nat} (hc : c < 2 ^ 24) : jBc (nI c) = bitsK (nI c) := by
  have e : c = c % 256 + 256 * (c / 256 % 256 + 256 * (c / 65536)) := by omega
  have h := jBc_24 (a := c % 256) (b := c / 256 % 256) (c := c / 65536) (by omega) (by omega) (by omega)
  rw [← e, pcN_mod, pcN_mod] at h
  rw [h]
  unfold bitsK
  rw [pk_tn (by omega), kB_pop c c (Nat.le_refl _) hc, popF_24]
theorem q_count {sc : ScS} {u : HeS} {h : HaS} {ke : Nat → Int32} {m0 m1 : MoS} {tr : Int64} {m : MdS} (r : rAll sc u h ke m0 m1 tr m) (what : Int32) : xCoR sc u h what = yCoR m what := by
  obtain ⟨Z, n, k, N, c, ⟨z1, z2, z3⟩, ⟨n1, n2, n3⟩, ⟨k1, k2, k3⟩, ⟨p1, p2, p3⟩, ⟨c1, c2, c3⟩, q, -, -⟩ := rAll_q r
  obtain ⟨h1, h2, h3, -, -, -, w, hw, ew⟩ := r.2.2.1
  unfold xCoR yCoR
  rw [h1, h2, h3, n1, n3, k2, k3, c2, c3, z2, z3, ew, jBcK24 hw]
