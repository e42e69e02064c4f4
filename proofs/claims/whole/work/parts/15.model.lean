abbrev MdS : Type := (Nat → Int32) × Int32 × Int32 × Int32 × Int32 × (Nat → Int32) × (Nat → Int32) × Int32 × (Nat → Int32) × (Nat → Int32) × (Nat → Int32) × Int32 × Int64 × Int32 × Int32 × Int32 × Int32 × Int32 × Int32 × Int32 × (Nat → Int32)
abbrev MdS.text (m : MdS) : Nat → Int32 := m.1
abbrev MdS.len (m : MdS) : Int32 := m.2.1
abbrev MdS.pl (m : MdS) : Int32 := m.2.2.1
abbrev MdS.loss (m : MdS) : Int32 := m.2.2.2.1
abbrev MdS.nich (m : MdS) : Int32 := m.2.2.2.2.1
abbrev MdS.st (m : MdS) : Nat → Int32 := m.2.2.2.2.2.1
abbrev MdS.book (m : MdS) : Nat → Int32 := m.2.2.2.2.2.2.1
abbrev MdS.undos (m : MdS) : Int32 := m.2.2.2.2.2.2.2.1
abbrev MdS.imgs (m : MdS) : Nat → Int32 := m.2.2.2.2.2.2.2.2.1
abbrev MdS.kept (m : MdS) : Nat → Int32 := m.2.2.2.2.2.2.2.2.2.1
abbrev MdS.heard (m : MdS) : Nat → Int32 := m.2.2.2.2.2.2.2.2.2.2.1
abbrev MdS.hm (m : MdS) : Int32 := m.2.2.2.2.2.2.2.2.2.2.2.1
abbrev MdS.trail (m : MdS) : Int64 := m.2.2.2.2.2.2.2.2.2.2.2.2.1
abbrev MdS.pos (m : MdS) : Int32 := m.2.2.2.2.2.2.2.2.2.2.2.2.2.1
abbrev MdS.wrong (m : MdS) : Int32 := m.2.2.2.2.2.2.2.2.2.2.2.2.2.2.1
abbrev MdS.items (m : MdS) : Int32 := m.2.2.2.2.2.2.2.2.2.2.2.2.2.2.2.1
abbrev MdS.rp (m : MdS) : Int32 := m.2.2.2.2.2.2.2.2.2.2.2.2.2.2.2.2.1
abbrev MdS.rl (m : MdS) : Int32 := m.2.2.2.2.2.2.2.2.2.2.2.2.2.2.2.2.2.1
abbrev MdS.sl (m : MdS) : Int32 := m.2.2.2.2.2.2.2.2.2.2.2.2.2.2.2.2.2.2.1
abbrev MdS.rn (m : MdS) : Int32 := m.2.2.2.2.2.2.2.2.2.2.2.2.2.2.2.2.2.2.2.1
abbrev MdS.read (m : MdS) : Nat → Int32 := m.2.2.2.2.2.2.2.2.2.2.2.2.2.2.2.2.2.2.2.2
def wMd (a : Nat → Nat) (cI cZ : ClassId) (m : MdS) : va_W := [(a 0, .inr (5, [.ref (a 1), .int m.len, .int m.pl, .int m.loss, .int m.nich, .ref (a 2), .ref (a 3), .int m.undos, .ref (a 4), .ref (a 5), .ref (a 6), .int m.hm, .long m.trail, .int m.pos, .int m.wrong, .int m.items, .int m.rp, .int m.rl, .int m.sl, .int m.rn, .ref (a 7)])), (a 1, .inl (cI, 120, .inl m.text)), (a 2, .inl (cI, 50, .inl m.st)), (a 3, .inl (cI, 500, .inl m.book)), (a 4, .inl (cI, 1102, .inl m.imgs)), (a 5, .inl (cZ, 2, .inl m.kept)), (a 6, .inl (cI, 18, .inl m.heard)), (a 7, .inl (cI, 50, .inl m.read))]
def kBits : Nat → Int32 → Nat
  | 0, _ => 0
  | f + 1, x => if x = 0 then 0 else kBits f (x &&& (x - 1)) + 1
theorem kB_lt {x : Int32} (h : ¬ x = 0) : (x &&& (x - 1)).toBitVec.toNat < x.toBitVec.toNat := by
  have h0 : x.toBitVec.toNat ≠ 0 := fun q => h (Int32.toBitVec_inj.mp (BitVec.eq_of_toNat_eq q))
  have h1 : (x - 1).toBitVec.toNat = x.toBitVec.toNat - 1 := by
    show (x.toBitVec - 1#32).toNat = _
    rw [BitVec.toNat_sub]
    have := x.toBitVec.isLt
    simp only [BitVec.toNat_ofNat]
    omega
  show (x.toBitVec &&& (x - 1).toBitVec).toNat < _
  rw [BitVec.toNat_and]
  have := Nat.and_le_right (n := x.toBitVec.toNat) (m := (x - 1).toBitVec.toNat)
  omega
theorem kB_fuel : ∀ (f g : Nat) (x : Int32), x.toBitVec.toNat ≤ f → x.toBitVec.toNat ≤ g → kBits f x = kBits g x
  | 0, 0, _, _, _ => rfl
  | 0, g + 1, x, h, _ => by
    have e : x = 0 := Int32.toBitVec_inj.mp (BitVec.eq_of_toNat_eq (Nat.le_zero.mp h))
    rw [kBits, kBits, if_pos e]
  | f + 1, 0, x, _, h => by
    have e : x = 0 := Int32.toBitVec_inj.mp (BitVec.eq_of_toNat_eq (Nat.le_zero.mp h))
    rw [kBits, kBits, if_pos e]
  | f + 1, g + 1, x, h1, h2 => by
    rw [kBits, kBits]
    by_cases e : x = 0
    · rw [if_pos e, if_pos e]
    · have := kB_lt e
      rw [if_neg e, if_neg e, kB_fuel f g _ (by omega) (by omega)]
theorem kB_s {x : Int32} (h : ¬ x = 0) : kBits x.toBitVec.toNat x = kBits (x &&& (x - 1)).toBitVec.toNat (x &&& (x - 1)) + 1 := by
  have := kB_lt h
  rw [kB_fuel x.toBitVec.toNat ((x &&& (x - 1)).toBitVec.toNat + 1 + (x.toBitVec.toNat - 1)) x (Nat.le_refl _) (by omega)]
  rw [show (x &&& (x - 1)).toBitVec.toNat + 1 + (x.toBitVec.toNat - 1) = ((x &&& (x - 1)).toBitVec.toNat + (x.toBitVec.toNat - 1)) + 1 by omega, kBits, if_neg h, kB_fuel _ (x &&& (x - 1)).toBitVec.toNat _ (by omega) (Nat.le_refl _)]
def bitsK (x : Int32) : Int32 := nI (kBits x.toBitVec.toNat x)
theorem gcM_lt {u v : Int32} (h : 0 < v) : (u - u / v * v).toNatClampNeg < v.toNatClampNeg := by
  rw [Int32.lt_iff_toInt_lt] at h
  have e0 : (0 : Int32).toInt = 0 := by decide
  have h1 := rem_toInt u v
  have h2 := (tmod_bounds (a := u.toInt) (M := v.toInt) (by omega)).2
  show (u - u / v * v).toInt.toNat < v.toInt.toNat
  omega
theorem gcL_fuel : ∀ (f g : Nat) (u v : Int32), v.toNatClampNeg < f → v.toNatClampNeg < g → gcL f u v = gcL g u v
  | 0, _, _, _, h, _ => absurd h (Nat.not_lt_zero _)
  | _, 0, _, _, _, h => absurd h (Nat.not_lt_zero _)
  | f + 1, g + 1, u, v, h1, h2 => by
    rw [gcL, gcL]
    by_cases c : 0 < v
    · have := gcM_lt (u := u) c
      rw [if_pos c, if_pos c, gcL_fuel f g _ _ (by omega) (by omega)]
    · rw [if_neg c, if_neg c]
theorem gcM_s {u v : Int32} (c : 0 < v) : gcL (v.toNatClampNeg + 1) u v = gcL ((u - u / v * v).toNatClampNeg + 1) v (u - u / v * v) := by
  rw [gcL, if_pos c]
  have := gcM_lt (u := u) c
  exact gcL_fuel _ _ _ _ (by omega) (by omega)
def lastI (q : Nat → Bool) : Nat → Int32
  | 0 => -9
  | i + 1 => if q i then nI i else lastI q i
theorem lI_y {q : Nat → Bool} {i : Nat} (h : q i = true) : nI i = lastI q (i + 1) := by rw [lastI, if_pos h]
theorem lI_n {q : Nat → Bool} {i : Nat} {x : Int32} (hx : x = lastI q i) (h : q i = false) : x = lastI q (i + 1) := by rw [hx, lastI, if_neg (by rw [h]; decide)]
def dRo (m : MdS) (v : Int32) : Int32 := (v - v / m.pl * m.pl + m.pl) - (v - v / m.pl * m.pl + m.pl) / m.pl * m.pl
def dBy (m : MdS) (p sp wa t : Int32) : Int32 := dRo m (if wa = 0 then p + sp * t else p - sp * t)
def dAgo (m : MdS) (s : Nat) (k : Int32) : Int32 := m.st 0 + k - m.st (34 + s)
def dPl (m : MdS) (s : Nat) (k : Int32) : Int32 := dBy m (m.st (2 + s)) (m.st (10 + s)) (m.st (18 + s)) (dAgo m s k)
def dLa (m : MdS) (s : Nat) (k : Int32) : Int32 := m.st (10 + s) * dAgo m s k / m.pl
def dSt (m : MdS) (s : Nat) (k : Int32) : Int32 := if m.st (26 + s) - m.loss * dLa m s k < 0 then 0 else if m.st (42 + s) = 1 then 0 else m.st (26 + s) - m.loss * dLa m s k
def dSn (m : MdS) (n : Nat) (p k : Int32) : Int32 := bitsOf (fun s => decide (0 < dSt m s k) && decide (dPl m s k = p)) n
def dLo (m : MdS) (n : Nat) (b k : Int32) : Int32 := sumOf (fun s => hasB b (nI s)) (fun s => dSt m s k) n
def dCl (m : MdS) (n : Nat) (b k : Int32) : Int32 := lastI (fun s => hasB b (nI s) && decide (dLo m n b k < 2 * dSt m s k)) n
def dLs (m : MdS) (s : Nat) : Int32 := oI (firstF (fun k => decide (dSt m s (nI k) = 0)) 1000 0)
def dQu (m : MdS) (n : Nat) (p : Int32) : Int32 := oI (firstF (fun k => decide (dSn m n p (nI k) = 0)) 100 0)
def dAl (m : MdS) (n : Nat) : Int32 := bitsOf (fun s => decide (0 < dSt m s 0)) n
def ySayR (m : MdS) (s what : Int32) : Int32 := if wIn s 0 (m.st 1 - 1) then (if what = 0 then m.st (2 + s.toNatClampNeg) else if what = 1 then m.st (10 + s.toNatClampNeg) else if what = 2 then m.st (18 + s.toNatClampNeg) else if what = 3 then m.st (26 + s.toNatClampNeg) else if what = 4 then dPl m s.toNatClampNeg 0 else if what = 5 then dLa m s.toNatClampNeg 0 else if what = 6 then dSt m s.toNatClampNeg 0 else if what = 7 then m.st (42 + s.toNatClampNeg) else if what = 8 then dLs m s.toNatClampNeg else -1) else -1
def yPlR (m : MdS) (n : Nat) (p what : Int32) : Int32 := if wIn p 0 (m.pl - 1) then (if what = 0 then (m.nich >>> (p &&& 31)) &&& 1 else if what = 1 then dSn m n p 0 else if what = 2 then dCl m n (dSn m n p 0) 0 else if what = 3 then (if dSn m n p 0 = 0 then 0 else if dCl m n (dSn m n p 0) 0 = -9 then 1 else 0) else if what = 4 then (if hasB m.nich p then 2 * dLo m n (dSn m n p 0) 0 else 1 * dLo m n (dSn m n p 0) 0) else if what = 5 then dQu m n p else -1) else -1
theorem h_X5_in : yX5_in.cls ≠ "java/lang/invoke/MethodHandle" ∧ yX5_in.cls ≠ "java/lang/invoke/VarHandle" ∧ (parseMethodDescriptor yX5_in.desc).map (fun d => d.parameters.length) = some 3 := by decide +kernel
set_option maxHeartbeats 4000000 in
set_option maxRecDepth 100000 in
theorem c_X5_in (lz : Launch) (G : gG) (x lo hi : Int32) : gRd lz yX5_in wsX5_in 0 G [.int x, .int lo, .int hi] ([]) (bI (wIn x lo hi)) := by
  refine g_rd (by decide) rfl (Nat.le_of_ble_eq_true rfl) ?_
  intro pz ez sz mz bz tz cz hx hb hr hml hown hts hlocks hP hK ls hl
  have hl : lv_has ls 3 [(0, .int x), (1, .int lo), (2, .int hi)] := hl
  refine lv_iload_n hx hb dX5_in_0 rfl (lv_at hl 0 rfl) ?_
  refine lv_iload_n hx hb dX5_in_1 rfl (lv_at hl 1 rfl) ?_
  refine lv_icmp_lt (tgt := 14) hx hb dX5_in_2 (by decide) (fun c_1 => ?_) (fun c_1 => ?_)
  · skip
    refine lv_iconst (v := 0) hx hb dX5_in_14 (by decide) ?_
    exact g_rz hx hb hr hlocks dX5_in_15 (by simp [wIn, bI, c_1])
  · skip
    refine lv_iload_n hx hb dX5_in_5 rfl (lv_at hl 0 rfl) ?_
    refine lv_iload_n hx hb dX5_in_6 rfl (lv_at hl 2 rfl) ?_
    refine lv_icmp_gt (tgt := 14) hx hb dX5_in_7 (by decide) (fun c_2 => ?_) (fun c_2 => ?_)
    · skip
      refine lv_iconst (v := 0) hx hb dX5_in_14 (by decide) ?_
      exact g_rz hx hb hr hlocks dX5_in_15 (by simp [wIn, bI, c_1, c_2])
    · skip
      refine lv_iconst (v := 1) hx hb dX5_in_10 (by decide) ?_
      refine lv_goto (tgt := 15) hx hb dX5_in_11 (by decide) ?_
      exact g_rz hx hb hr hlocks dX5_in_15 (by simp [wIn, bI, c_1, c_2])

theorem h_X5_has : yX5_has.cls ≠ "java/lang/invoke/MethodHandle" ∧ yX5_has.cls ≠ "java/lang/invoke/VarHandle" ∧ (parseMethodDescriptor yX5_has.desc).map (fun d => d.parameters.length) = some 2 := by decide +kernel
set_option maxHeartbeats 4000000 in
set_option maxRecDepth 100000 in
theorem c_X5_has (lz : Launch) (G : gG) (x k : Int32) : gRd lz yX5_has wsX5_has 0 G [.int x, .int k] ([]) (bI (hasB x k)) := by
  refine g_rd (by decide) rfl (Nat.le_of_ble_eq_true rfl) ?_
  intro pz ez sz mz bz tz cz hx hb hr hml hown hts hlocks hP hK ls hl
  have hl : lv_has ls 2 [(0, .int x), (1, .int k)] := hl
  refine lv_iload_n hx hb dX5_has_0 rfl (lv_at hl 0 rfl) ?_
  refine lv_iload_n hx hb dX5_has_1 rfl (lv_at hl 1 rfl) ?_
  refine lv_ishr hx hb dX5_has_2 ?_
  refine lv_iconst (v := 1) hx hb dX5_has_3 (by decide) ?_
  refine lv_iand hx hb dX5_has_4 ?_
  refine lv_iconst (v := 1) hx hb dX5_has_5 (by decide) ?_
  refine lv_icmp_ne (tgt := 13) hx hb dX5_has_6 (by decide) (fun c_1 => ?_) (fun c_1 => ?_)
  · skip
    refine lv_iconst (v := 0) hx hb dX5_has_13 (by decide) ?_
    exact g_rz hx hb hr hlocks dX5_has_14 (by simp [hasB, bI, c_1])
  · skip
    refine lv_iconst (v := 1) hx hb dX5_has_9 (by decide) ?_
    refine lv_goto (tgt := 14) hx hb dX5_has_10 (by decide) ?_
    exact g_rz hx hb hr hlocks dX5_has_14 (by simp [hasB, bI, c_1])

theorem h_X5_bits : yX5_bits.cls ≠ "java/lang/invoke/MethodHandle" ∧ yX5_bits.cls ≠ "java/lang/invoke/VarHandle" ∧ (parseMethodDescriptor yX5_bits.desc).map (fun d => d.parameters.length) = some 1 := by decide +kernel
set_option maxHeartbeats 4000000 in
set_option maxRecDepth 100000 in
theorem c_X5_bits (lz : Launch) (G : gG) (x : Int32) : gRd lz yX5_bits wsX5_bits 0 G [.int x] ([]) (bitsK x) := by
  refine g_rd (by decide) rfl (Nat.le_of_ble_eq_true rfl) ?_
  intro pz ez sz mz bz tz cz hx hb hr hml hown hts hlocks hP hK ls hl
  have hl : lv_has ls 3 [(0, .int x)] := hl
  refine lv_iconst (v := 0) hx hb dX5_bits_0 (by decide) ?_
  refine lv_istore_n (lv' := [(1, .int 0), (0, .int x)]) hx hb dX5_bits_1 rfl hl (by decide) rfl (fun ls hl => ?_)
  refine lv_iload_n hx hb dX5_bits_2 rfl (lv_at hl 1 rfl) ?_
  refine lv_istore_n (lv' := [(2, .int x), (1, .int 0), (0, .int x)]) hx hb dX5_bits_3 rfl hl (by decide) rfl (fun ls hl => ?_)
  have lp_4 : ∀ (fu_4 : Nat) (c : Nat) (y : Int32), (kBits x.toBitVec.toNat x = c + kBits y.toBitVec.toNat y) → y.toBitVec.toNat < fu_4 → ∀ ls : Array Slot, lv_has ls 3 [(0, .int x), (1, .int (nI c)), (2, .int y)] → W pz lz ez (gRm 0) sz mz ([.int x] : List Value).toArray bz tz cz sz.heap [] 0 0 (MQ bz (vp_Si (fun xx_ => xx_ = bitsK x)) ([.int x] : List Value).toArray sz 0 0 (fun _ => False)) (F0 mz 4 ls []) := by
    intro fu_4
    induction fu_4 with
    | zero =>
      intro c y he hf_4
      exact absurd hf_4 (Nat.not_lt_zero _)
    | succ fu_4 ih_4 =>
      intro c y he hf_4 ls hl
      refine lv_iload_n hx hb dX5_bits_4 rfl (lv_at hl 2 rfl) ?_
      refine lv_if_eq (tgt := 20) hx hb dX5_bits_5 (by decide) (fun c_1 => ?_) (fun c_1 => ?_)
      · skip
        refine lv_iload_n hx hb dX5_bits_20 rfl (lv_at hl 1 rfl) ?_
        exact g_ri hx hb hr hlocks dX5_bits_21 (by rw [bitsK, he, c_1]; rfl)
      · skip
        refine lv_iinc (v := nI (c + 1)) (lv' := [(1, .int (nI (c + 1))), (0, .int x), (2, .int y)]) hx hb dX5_bits_8 hl (k := 1) rfl (nI_1 c) (by decide) rfl (fun ls hl => ?_)
        refine lv_iload_n hx hb dX5_bits_11 rfl (lv_at hl 2 rfl) ?_
        refine lv_iload_n hx hb dX5_bits_12 rfl (lv_at hl 2 rfl) ?_
        refine lv_iconst (v := 1) hx hb dX5_bits_13 (by decide) ?_
        refine lv_isub hx hb dX5_bits_14 ?_
        refine lv_iand hx hb dX5_bits_15 ?_
        refine lv_istore_n (lv' := [(2, .int (y &&& (y - 1))), (1, .int (nI (c + 1))), (0, .int x)]) hx hb dX5_bits_16 rfl hl (by decide) rfl (fun ls hl => ?_)
        refine lv_goto (tgt := 4) hx hb dX5_bits_17 (by decide) ?_
        exact ih_4 (c + 1) (y &&& (y - 1)) (by rw [he, kB_s c_1]; omega) (Nat.lt_of_lt_of_le (kB_lt c_1) (Nat.le_of_lt_succ hf_4)) ls (lv_sub hl [2, 1, 0] rfl)
  exact lp_4 (x.toBitVec.toNat + 1) 0 x ((Nat.zero_add _).symm) (Nat.lt_succ_self _) ls (lv_sub hl [2, 1, 0] rfl)

theorem h_X5_divisor : yX5_divisor.cls ≠ "java/lang/invoke/MethodHandle" ∧ yX5_divisor.cls ≠ "java/lang/invoke/VarHandle" ∧ (parseMethodDescriptor yX5_divisor.desc).map (fun d => d.parameters.length) = some 2 := by decide +kernel
set_option maxHeartbeats 4000000 in
set_option maxRecDepth 100000 in
theorem c_X5_divisor (lz : Launch) (G : gG) (x y : Int32) : gRd lz yX5_divisor wsX5_divisor 0 G [.int x, .int y] ([]) (gcL (y.toNatClampNeg + 1) x y) := by
  refine g_rd (by decide) rfl (Nat.le_of_ble_eq_true rfl) ?_
  intro pz ez sz mz bz tz cz hx hb hr hml hown hts hlocks hP hK ls hl
  have hl : lv_has ls 5 [(0, .int x), (1, .int y)] := hl
  refine lv_iload_n hx hb dX5_divisor_0 rfl (lv_at hl 0 rfl) ?_
  refine lv_istore_n (lv' := [(2, .int x), (0, .int x), (1, .int y)]) hx hb dX5_divisor_1 rfl hl (by decide) rfl (fun ls hl => ?_)
  refine lv_iload_n hx hb dX5_divisor_2 rfl (lv_at hl 2 rfl) ?_
  refine lv_istore_n (lv' := [(3, .int y), (2, .int x), (0, .int x), (1, .int y)]) hx hb dX5_divisor_3 rfl hl (by decide) rfl (fun ls hl => ?_)
  have lp_4 : ∀ (fu_4 : Nat) (u : Int32) (v : Int32), (gcL (y.toNatClampNeg + 1) x y = gcL (v.toNatClampNeg + 1) u v) → v.toNatClampNeg < fu_4 → ∀ ls : Array Slot, lv_has ls 5 [(0, .int x), (1, .int y), (2, .int u), (3, .int v)] → W pz lz ez (gRm 0) sz mz ([.int x, .int y] : List Value).toArray bz tz cz sz.heap [] 0 0 (MQ bz (vp_Si (fun xx_ => xx_ = gcL (y.toNatClampNeg + 1) x y)) ([.int x, .int y] : List Value).toArray sz 0 0 (fun _ => False)) (F0 mz 4 ls []) := by
    intro fu_4
    induction fu_4 with
    | zero =>
      intro u v he hf_4
      exact absurd hf_4 (Nat.not_lt_zero _)
    | succ fu_4 ih_4 =>
      intro u v he hf_4 ls hl
      refine lv_iload_n hx hb dX5_divisor_4 rfl (lv_at hl 3 rfl) ?_
      refine lv_if_le (tgt := 21) hx hb dX5_divisor_5 (by decide) (fun c_1 => ?_) (fun c_1 => ?_)
      · skip
        have c_1 := gl_le c_1
        refine lv_iload_n hx hb dX5_divisor_21 rfl (lv_at hl 2 rfl) ?_
        exact g_ri hx hb hr hlocks dX5_divisor_22 (by rw [he, gcL, if_neg c_1])
      · skip
        have c_1 := gl_nle c_1
        have hne : ¬ v = 0 := fun q => by rw [q] at c_1; exact absurd c_1 (by decide)
        refine lv_iload_n hx hb dX5_divisor_8 rfl (lv_at hl 2 rfl) ?_
        refine lv_iload_n hx hb dX5_divisor_9 rfl (lv_at hl 3 rfl) ?_
        refine lv_irem hx hb dX5_divisor_10 (by assumption) ?_
        refine lv_istore (lv' := [(4, .int (u - u / v * v)), (0, .int x), (1, .int y), (2, .int u), (3, .int v)]) hx hb dX5_divisor_11 hl (by decide) rfl (fun ls hl => ?_)
        refine lv_iload_n hx hb dX5_divisor_13 rfl (lv_at hl 4 rfl) ?_
        refine lv_istore_n (lv' := [(2, .int v), (4, .int (u - u / v * v)), (0, .int x), (1, .int y), (3, .int v)]) hx hb dX5_divisor_14 rfl hl (by decide) rfl (fun ls hl => ?_)
        refine lv_iload hx hb dX5_divisor_15 (lv_at hl 1 rfl) ?_
        refine lv_istore_n (lv' := [(3, .int (u - u / v * v)), (2, .int v), (4, .int (u - u / v * v)), (0, .int x), (1, .int y)]) hx hb dX5_divisor_17 rfl hl (by decide) rfl (fun ls hl => ?_)
        refine lv_goto (tgt := 4) hx hb dX5_divisor_18 (by decide) ?_
        exact ih_4 v (u - u / v * v) (he.trans (gcM_s c_1)) (Nat.lt_of_lt_of_le (gcM_lt c_1) (Nat.le_of_lt_succ hf_4)) ls (lv_sub hl [3, 4, 1, 0] rfl)
  exact lp_4 (y.toNatClampNeg + 1) x y rfl (Nat.lt_succ_self _) ls (lv_sub hl [2, 3, 1, 0] rfl)

theorem i_X5_isSaying_X5 : ∀ w ∈ wsX50, w ∈ wsX5_isSaying := by decide +kernel
theorem h_X5_isSaying : yX5_isSaying.cls = RX5 ∧ yX5_isSaying.cls ≠ "java/lang/invoke/MethodHandle" ∧ yX5_isSaying.cls ≠ "java/lang/invoke/VarHandle" ∧ (parseMethodDescriptor yX5_isSaying.desc).map (fun d => d.parameters.length) = some 1 := by decide +kernel
set_option maxHeartbeats 4000000 in
set_option maxRecDepth 100000 in
theorem c_X5_isSaying (lz : Launch) (G : gG) (a : Nat → Nat) (m : MdS) (s : Int32) : gRd lz yX5_isSaying wsX5_isSaying 1 G [.ref (a 0), .int s] (wMd a G.2.1 G.2.2.1 m) (bI (wIn s 0 (m.st 1 - 1))) := by
  refine g_rd (by decide) rfl (Nat.le_of_ble_eq_true rfl) ?_
  intro pz ez sz mz bz tz cz hx hb hr hml hown hts hlocks hP hK ls hl
  have hl : lv_has ls 2 [(0, .ref (a 0)), (1, .int s)] := hl
  have f20 := hts (.fieldLink RX5 20 "WhisperRingModel" "st" "[I") (by decide +kernel)
  refine lv_iload_n hx hb dX5_isSaying_0 rfl (lv_at hl 1 rfl) ?_
  refine lv_iconst (v := 0) hx hb dX5_isSaying_1 (by decide) ?_
  refine lv_aload_n hx hb dX5_isSaying_2 rfl (lv_at hl 0 rfl) ?_
  refine va_get (D := G.1) (ci := 5) (v := .ref (a 2)) (C := RX5) (T := TX5) (N := 21) hx hb hts i_X5_isSaying_X5 hown hK.1 hP 0 rfl rfl 5 (by decide) f20 (fun _ h9 => h9) rfl dX5_isSaying_3 ?_
  refine lv_iconst (v := 1) hx hb dX5_isSaying_6 (by decide) ?_
  refine g_top (y := nI 1) rfl ?_
  refine g_iald hx hb hK.1 hP 2 0 rfl rfl (i := 1) (by omega) (by decide) dX5_isSaying_7 ?_
  refine lv_iconst (v := 1) hx hb dX5_isSaying_8 (by decide) ?_
  refine lv_isub hx hb dX5_isSaying_9 ?_
  refine g_rdS (As := [.int s, .int 0, .int ((m.st 1) - 1)]) (rest := []) (nL := 2) hx hb hml hown hts (c_X5_in lz G s 0 ((m.st 1) - 1)) gX5_isSaying_X5_in rfl h_X5_in ⟨Nat.le_of_ble_eq_true rfl, Nat.le_of_ble_eq_true rfl⟩ hK gP_nil rfl hl.1 rfl (Nat.le_of_ble_eq_true rfl) ⟨Nat.le_refl _, Nat.le_refl _⟩ dX5_isSaying_10 ?_
  exact g_rz hx hb hr hlocks dX5_isSaying_13 rfl

theorem i_X5_isPlace_X5 : ∀ w ∈ wsX50, w ∈ wsX5_isPlace := by decide +kernel
theorem h_X5_isPlace : yX5_isPlace.cls = RX5 ∧ yX5_isPlace.cls ≠ "java/lang/invoke/MethodHandle" ∧ yX5_isPlace.cls ≠ "java/lang/invoke/VarHandle" ∧ (parseMethodDescriptor yX5_isPlace.desc).map (fun d => d.parameters.length) = some 1 := by decide +kernel
set_option maxHeartbeats 4000000 in
set_option maxRecDepth 100000 in
theorem c_X5_isPlace (lz : Launch) (G : gG) (a : Nat → Nat) (m : MdS) (p : Int32) : gRd lz yX5_isPlace wsX5_isPlace 1 G [.ref (a 0), .int p] (wMd a G.2.1 G.2.2.1 m) (bI (wIn p 0 (m.pl - 1))) := by
  refine g_rd (by decide) rfl (Nat.le_of_ble_eq_true rfl) ?_
  intro pz ez sz mz bz tz cz hx hb hr hml hown hts hlocks hP hK ls hl
  have hl : lv_has ls 2 [(0, .ref (a 0)), (1, .int p)] := hl
  have f13 := hts (.fieldLink RX5 13 "WhisperRingModel" "places" "I") (by decide +kernel)
  refine lv_iload_n hx hb dX5_isPlace_0 rfl (lv_at hl 1 rfl) ?_
  refine lv_iconst (v := 0) hx hb dX5_isPlace_1 (by decide) ?_
  refine lv_aload_n hx hb dX5_isPlace_2 rfl (lv_at hl 0 rfl) ?_
  refine va_get (D := G.1) (ci := 5) (v := .int m.pl) (C := RX5) (T := TX5) (N := 21) hx hb hts i_X5_isPlace_X5 hown hK.1 hP 0 rfl rfl 2 (by decide) f13 (fun _ h9 => h9) rfl dX5_isPlace_3 ?_
  refine lv_iconst (v := 1) hx hb dX5_isPlace_6 (by decide) ?_
  refine lv_isub hx hb dX5_isPlace_7 ?_
  refine g_rdS (As := [.int p, .int 0, .int (m.pl - 1)]) (rest := []) (nL := 2) hx hb hml hown hts (c_X5_in lz G p 0 (m.pl - 1)) gX5_isPlace_X5_in rfl h_X5_in ⟨Nat.le_of_ble_eq_true rfl, Nat.le_of_ble_eq_true rfl⟩ hK gP_nil rfl hl.1 rfl (Nat.le_of_ble_eq_true rfl) ⟨Nat.le_refl _, Nat.le_refl _⟩ dX5_isPlace_8 ?_
  exact g_rz hx hb hr hlocks dX5_isPlace_11 rfl

theorem i_X5_round_X5 : ∀ w ∈ wsX50, w ∈ wsX5_round := by decide +kernel
theorem h_X5_round : yX5_round.cls = RX5 ∧ yX5_round.cls ≠ "java/lang/invoke/MethodHandle" ∧ yX5_round.cls ≠ "java/lang/invoke/VarHandle" ∧ (parseMethodDescriptor yX5_round.desc).map (fun d => d.parameters.length) = some 1 := by decide +kernel
set_option maxHeartbeats 4000000 in
set_option maxRecDepth 100000 in
theorem c_X5_round (lz : Launch) (G : gG) (a : Nat → Nat) (m : MdS) (v : Int32) (hpl : ¬ m.pl = 0) : gRd lz yX5_round wsX5_round 0 G [.ref (a 0), .int v] (wMd a G.2.1 G.2.2.1 m) (dRo m v) := by
  refine g_rd (by decide) rfl (Nat.le_of_ble_eq_true rfl) ?_
  intro pz ez sz mz bz tz cz hx hb hr hml hown hts hlocks hP hK ls hl
  have hl : lv_has ls 2 [(0, .ref (a 0)), (1, .int v)] := hl
  have f13 := hts (.fieldLink RX5 13 "WhisperRingModel" "places" "I") (by decide +kernel)
  refine lv_iload_n hx hb dX5_round_0 rfl (lv_at hl 1 rfl) ?_
  refine lv_aload_n hx hb dX5_round_1 rfl (lv_at hl 0 rfl) ?_
  refine va_get (D := G.1) (ci := 5) (v := .int m.pl) (C := RX5) (T := TX5) (N := 21) hx hb hts i_X5_round_X5 hown hK.1 hP 0 rfl rfl 2 (by decide) f13 (fun _ h9 => h9) rfl dX5_round_2 ?_
  refine lv_irem hx hb dX5_round_5 (by assumption) ?_
  refine lv_aload_n hx hb dX5_round_6 rfl (lv_at hl 0 rfl) ?_
  refine va_get (D := G.1) (ci := 5) (v := .int m.pl) (C := RX5) (T := TX5) (N := 21) hx hb hts i_X5_round_X5 hown hK.1 hP 0 rfl rfl 2 (by decide) f13 (fun _ h9 => h9) rfl dX5_round_7 ?_
  refine lv_iadd hx hb dX5_round_10 ?_
  refine lv_aload_n hx hb dX5_round_11 rfl (lv_at hl 0 rfl) ?_
  refine va_get (D := G.1) (ci := 5) (v := .int m.pl) (C := RX5) (T := TX5) (N := 21) hx hb hts i_X5_round_X5 hown hK.1 hP 0 rfl rfl 2 (by decide) f13 (fun _ h9 => h9) rfl dX5_round_12 ?_
  refine lv_irem hx hb dX5_round_15 (by assumption) ?_
  exact g_ri hx hb hr hlocks dX5_round_16 rfl

theorem h_X5_placeBy : yX5_placeBy.cls = RX5 ∧ yX5_placeBy.cls ≠ "java/lang/invoke/MethodHandle" ∧ yX5_placeBy.cls ≠ "java/lang/invoke/VarHandle" ∧ (parseMethodDescriptor yX5_placeBy.desc).map (fun d => d.parameters.length) = some 4 := by decide +kernel
set_option maxHeartbeats 4000000 in
set_option maxRecDepth 100000 in
theorem c_X5_placeBy (lz : Launch) (G : gG) (a : Nat → Nat) (m : MdS) (p sp wa t : Int32) (hpl : ¬ m.pl = 0) : gRd lz yX5_placeBy wsX5_placeBy 1 G [.ref (a 0), .int p, .int sp, .int wa, .int t] (wMd a G.2.1 G.2.2.1 m) (dBy m p sp wa t) := by
  refine g_rd (by decide) rfl (Nat.le_of_ble_eq_true rfl) ?_
  intro pz ez sz mz bz tz cz hx hb hr hml hown hts hlocks hP hK ls hl
  have hl : lv_has ls 5 [(0, .ref (a 0)), (1, .int p), (2, .int sp), (3, .int wa), (4, .int t)] := hl
  refine lv_aload_n hx hb dX5_placeBy_0 rfl (lv_at hl 0 rfl) ?_
  refine lv_iload_n hx hb dX5_placeBy_1 rfl (lv_at hl 3 rfl) ?_
  refine lv_if_ne (tgt := 14) hx hb dX5_placeBy_2 (by decide) (fun c_1 => ?_) (fun c_1 => ?_)
  · skip
    refine lv_iload_n hx hb dX5_placeBy_14 rfl (lv_at hl 1 rfl) ?_
    refine lv_iload_n hx hb dX5_placeBy_15 rfl (lv_at hl 2 rfl) ?_
    refine lv_iload hx hb dX5_placeBy_16 (lv_at hl 4 rfl) ?_
    refine lv_imul hx hb dX5_placeBy_18 ?_
    refine lv_isub hx hb dX5_placeBy_19 ?_
    refine g_rdV (As := [.int (p - (sp * t))]) (rest := []) (nL := 5) hx hb hml hown hts (c_X5_round lz G a m (p - (sp * t)) hpl) gX5_placeBy_X5_round rfl h_X5_round ⟨Nat.le_of_ble_eq_true rfl, Nat.le_of_ble_eq_true rfl⟩ hK hP (ci := 5) rfl rfl rfl rfl hl.1 rfl (Nat.le_of_ble_eq_true rfl) ⟨Nat.le_refl _, Nat.le_refl _⟩ dX5_placeBy_20 ?_
    exact g_ri hx hb hr hlocks dX5_placeBy_23 (by first | rfl | (simp only [dBy, c_1, bI, if_true, if_false, reduceIte, Bool.false_eq_true, ite_true, ite_false]; done) | (simp [dBy, c_1, bI]; done))
  · skip
    refine lv_iload_n hx hb dX5_placeBy_5 rfl (lv_at hl 1 rfl) ?_
    refine lv_iload_n hx hb dX5_placeBy_6 rfl (lv_at hl 2 rfl) ?_
    refine lv_iload hx hb dX5_placeBy_7 (lv_at hl 4 rfl) ?_
    refine lv_imul hx hb dX5_placeBy_9 ?_
    refine lv_iadd hx hb dX5_placeBy_10 ?_
    refine lv_goto (tgt := 20) hx hb dX5_placeBy_11 (by decide) ?_
    refine g_rdV (As := [.int (p + (sp * t))]) (rest := []) (nL := 5) hx hb hml hown hts (c_X5_round lz G a m (p + (sp * t)) hpl) gX5_placeBy_X5_round rfl h_X5_round ⟨Nat.le_of_ble_eq_true rfl, Nat.le_of_ble_eq_true rfl⟩ hK hP (ci := 5) rfl rfl rfl rfl hl.1 rfl (Nat.le_of_ble_eq_true rfl) ⟨Nat.le_refl _, Nat.le_refl _⟩ dX5_placeBy_20 ?_
    exact g_ri hx hb hr hlocks dX5_placeBy_23 (by first | rfl | (simp only [dBy, c_1, bI, if_true, if_false, reduceIte, Bool.false_eq_true, ite_true, ite_false]; done) | (simp [dBy, c_1, bI]; done))

theorem i_X5_ago_X5 : ∀ w ∈ wsX50, w ∈ wsX5_ago := by decide +kernel
theorem h_X5_ago : yX5_ago.cls = RX5 ∧ yX5_ago.cls ≠ "java/lang/invoke/MethodHandle" ∧ yX5_ago.cls ≠ "java/lang/invoke/VarHandle" ∧ (parseMethodDescriptor yX5_ago.desc).map (fun d => d.parameters.length) = some 2 := by decide +kernel
set_option maxHeartbeats 4000000 in
set_option maxRecDepth 100000 in
theorem c_X5_ago (lz : Launch) (G : gG) (a : Nat → Nat) (m : MdS) (s : Nat) (k : Int32) (hs : s < 8) : gRd lz yX5_ago wsX5_ago 0 G [.ref (a 0), .int (nI s), .int k] (wMd a G.2.1 G.2.2.1 m) (dAgo m s k) := by
  refine g_rd (by decide) rfl (Nat.le_of_ble_eq_true rfl) ?_
  intro pz ez sz mz bz tz cz hx hb hr hml hown hts hlocks hP hK ls hl
  have hl : lv_has ls 3 [(0, .ref (a 0)), (1, .int (nI s)), (2, .int k)] := hl
  have f20 := hts (.fieldLink RX5 20 "WhisperRingModel" "st" "[I") (by decide +kernel)
  refine lv_aload_n hx hb dX5_ago_0 rfl (lv_at hl 0 rfl) ?_
  refine va_get (D := G.1) (ci := 5) (v := .ref (a 2)) (C := RX5) (T := TX5) (N := 21) hx hb hts i_X5_ago_X5 hown hK.1 hP 0 rfl rfl 5 (by decide) f20 (fun _ h9 => h9) rfl dX5_ago_1 ?_
  refine lv_iconst (v := 0) hx hb dX5_ago_4 (by decide) ?_
  refine g_top (y := nI 0) rfl ?_
  refine g_iald hx hb hK.1 hP 2 0 rfl rfl (i := 0) (by omega) (by decide) dX5_ago_5 ?_
  refine lv_iload_n hx hb dX5_ago_6 rfl (lv_at hl 2 rfl) ?_
  refine lv_iadd hx hb dX5_ago_7 ?_
  refine lv_aload_n hx hb dX5_ago_8 rfl (lv_at hl 0 rfl) ?_
  refine va_get (D := G.1) (ci := 5) (v := .ref (a 2)) (C := RX5) (T := TX5) (N := 21) hx hb hts i_X5_ago_X5 hown hK.1 hP 0 rfl rfl 5 (by decide) f20 (fun _ h9 => h9) rfl dX5_ago_9 ?_
  refine lv_bipush (v := 34) hx hb dX5_ago_12 (by decide) ?_
  refine lv_iload_n hx hb dX5_ago_14 rfl (lv_at hl 1 rfl) ?_
  refine lv_iadd hx hb dX5_ago_15 ?_
  refine g_top (y := nI (34 + s)) (nI_add 34 s) ?_
  refine g_iald hx hb hK.1 hP 2 0 rfl rfl (i := (34 + s)) (by omega) (by decide) dX5_ago_16 ?_
  refine lv_isub hx hb dX5_ago_17 ?_
  exact g_ri hx hb hr hlocks dX5_ago_18 rfl

theorem i_X5_placeOf_X5 : ∀ w ∈ wsX50, w ∈ wsX5_placeOf := by decide +kernel
theorem h_X5_placeOf : yX5_placeOf.cls = RX5 ∧ yX5_placeOf.cls ≠ "java/lang/invoke/MethodHandle" ∧ yX5_placeOf.cls ≠ "java/lang/invoke/VarHandle" ∧ (parseMethodDescriptor yX5_placeOf.desc).map (fun d => d.parameters.length) = some 2 := by decide +kernel
set_option maxHeartbeats 4000000 in
set_option maxRecDepth 100000 in
theorem c_X5_placeOf (lz : Launch) (G : gG) (a : Nat → Nat) (m : MdS) (s : Nat) (k : Int32) (hs : s < 8) (hpl : ¬ m.pl = 0) : gRd lz yX5_placeOf wsX5_placeOf 2 G [.ref (a 0), .int (nI s), .int k] (wMd a G.2.1 G.2.2.1 m) (dPl m s k) := by
  refine g_rd (by decide) rfl (Nat.le_of_ble_eq_true rfl) ?_
  intro pz ez sz mz bz tz cz hx hb hr hml hown hts hlocks hP hK ls hl
  have hl : lv_has ls 3 [(0, .ref (a 0)), (1, .int (nI s)), (2, .int k)] := hl
  have f20 := hts (.fieldLink RX5 20 "WhisperRingModel" "st" "[I") (by decide +kernel)
  refine lv_aload_n hx hb dX5_placeOf_0 rfl (lv_at hl 0 rfl) ?_
  refine lv_aload_n hx hb dX5_placeOf_1 rfl (lv_at hl 0 rfl) ?_
  refine va_get (D := G.1) (ci := 5) (v := .ref (a 2)) (C := RX5) (T := TX5) (N := 21) hx hb hts i_X5_placeOf_X5 hown hK.1 hP 0 rfl rfl 5 (by decide) f20 (fun _ h9 => h9) rfl dX5_placeOf_2 ?_
  refine lv_iconst (v := 2) hx hb dX5_placeOf_5 (by decide) ?_
  refine lv_iload_n hx hb dX5_placeOf_6 rfl (lv_at hl 1 rfl) ?_
  refine lv_iadd hx hb dX5_placeOf_7 ?_
  refine g_top (y := nI (2 + s)) (nI_add 2 s) ?_
  refine g_iald hx hb hK.1 hP 2 0 rfl rfl (i := (2 + s)) (by omega) (by decide) dX5_placeOf_8 ?_
  refine lv_aload_n hx hb dX5_placeOf_9 rfl (lv_at hl 0 rfl) ?_
  refine va_get (D := G.1) (ci := 5) (v := .ref (a 2)) (C := RX5) (T := TX5) (N := 21) hx hb hts i_X5_placeOf_X5 hown hK.1 hP 0 rfl rfl 5 (by decide) f20 (fun _ h9 => h9) rfl dX5_placeOf_10 ?_
  refine lv_bipush (v := 10) hx hb dX5_placeOf_13 (by decide) ?_
  refine lv_iload_n hx hb dX5_placeOf_15 rfl (lv_at hl 1 rfl) ?_
  refine lv_iadd hx hb dX5_placeOf_16 ?_
  refine g_top (y := nI (10 + s)) (nI_add 10 s) ?_
  refine g_iald hx hb hK.1 hP 2 0 rfl rfl (i := (10 + s)) (by omega) (by decide) dX5_placeOf_17 ?_
  refine lv_aload_n hx hb dX5_placeOf_18 rfl (lv_at hl 0 rfl) ?_
  refine va_get (D := G.1) (ci := 5) (v := .ref (a 2)) (C := RX5) (T := TX5) (N := 21) hx hb hts i_X5_placeOf_X5 hown hK.1 hP 0 rfl rfl 5 (by decide) f20 (fun _ h9 => h9) rfl dX5_placeOf_19 ?_
  refine lv_bipush (v := 18) hx hb dX5_placeOf_22 (by decide) ?_
  refine lv_iload_n hx hb dX5_placeOf_24 rfl (lv_at hl 1 rfl) ?_
  refine lv_iadd hx hb dX5_placeOf_25 ?_
  refine g_top (y := nI (18 + s)) (nI_add 18 s) ?_
  refine g_iald hx hb hK.1 hP 2 0 rfl rfl (i := (18 + s)) (by omega) (by decide) dX5_placeOf_26 ?_
  refine lv_aload_n hx hb dX5_placeOf_27 rfl (lv_at hl 0 rfl) ?_
  refine lv_iload_n hx hb dX5_placeOf_28 rfl (lv_at hl 1 rfl) ?_
  refine lv_iload_n hx hb dX5_placeOf_29 rfl (lv_at hl 2 rfl) ?_
  refine g_rdV (As := [.int (nI s), .int k]) (rest := [.int (m.st (18 + s)), .int (m.st (10 + s)), .int (m.st (2 + s)), .ref (a 0)]) (nL := 3) hx hb hml hown hts (c_X5_ago lz G a m s k (by omega)) gX5_placeOf_X5_ago rfl h_X5_ago ⟨Nat.le_of_ble_eq_true rfl, Nat.le_of_ble_eq_true rfl⟩ hK hP (ci := 5) rfl rfl rfl rfl hl.1 rfl (Nat.le_of_ble_eq_true rfl) ⟨Nat.le_refl _, Nat.le_refl _⟩ dX5_placeOf_30 ?_
  refine g_rdV (As := [.int (m.st (2 + s)), .int (m.st (10 + s)), .int (m.st (18 + s)), .int (dAgo m s k)]) (rest := []) (nL := 3) hx hb hml hown hts (c_X5_placeBy lz G a m (m.st (2 + s)) (m.st (10 + s)) (m.st (18 + s)) (dAgo m s k) hpl) gX5_placeOf_X5_placeBy rfl h_X5_placeBy ⟨Nat.le_of_ble_eq_true rfl, Nat.le_of_ble_eq_true rfl⟩ hK hP (ci := 5) rfl rfl rfl rfl hl.1 rfl (Nat.le_of_ble_eq_true rfl) ⟨Nat.le_refl _, Nat.le_refl _⟩ dX5_placeOf_33 ?_
  exact g_ri hx hb hr hlocks dX5_placeOf_36 rfl

theorem i_X5_lapsOf_X5 : ∀ w ∈ wsX50, w ∈ wsX5_lapsOf := by decide +kernel
theorem h_X5_lapsOf : yX5_lapsOf.cls = RX5 ∧ yX5_lapsOf.cls ≠ "java/lang/invoke/MethodHandle" ∧ yX5_lapsOf.cls ≠ "java/lang/invoke/VarHandle" ∧ (parseMethodDescriptor yX5_lapsOf.desc).map (fun d => d.parameters.length) = some 2 := by decide +kernel
set_option maxHeartbeats 4000000 in
set_option maxRecDepth 100000 in
theorem c_X5_lapsOf (lz : Launch) (G : gG) (a : Nat → Nat) (m : MdS) (s : Nat) (k : Int32) (hs : s < 8) (hpl : ¬ m.pl = 0) : gRd lz yX5_lapsOf wsX5_lapsOf 1 G [.ref (a 0), .int (nI s), .int k] (wMd a G.2.1 G.2.2.1 m) (dLa m s k) := by
  refine g_rd (by decide) rfl (Nat.le_of_ble_eq_true rfl) ?_
  intro pz ez sz mz bz tz cz hx hb hr hml hown hts hlocks hP hK ls hl
  have hl : lv_has ls 3 [(0, .ref (a 0)), (1, .int (nI s)), (2, .int k)] := hl
  have f13 := hts (.fieldLink RX5 13 "WhisperRingModel" "places" "I") (by decide +kernel)
  have f20 := hts (.fieldLink RX5 20 "WhisperRingModel" "st" "[I") (by decide +kernel)
  refine lv_aload_n hx hb dX5_lapsOf_0 rfl (lv_at hl 0 rfl) ?_
  refine va_get (D := G.1) (ci := 5) (v := .ref (a 2)) (C := RX5) (T := TX5) (N := 21) hx hb hts i_X5_lapsOf_X5 hown hK.1 hP 0 rfl rfl 5 (by decide) f20 (fun _ h9 => h9) rfl dX5_lapsOf_1 ?_
  refine lv_bipush (v := 10) hx hb dX5_lapsOf_4 (by decide) ?_
  refine lv_iload_n hx hb dX5_lapsOf_6 rfl (lv_at hl 1 rfl) ?_
  refine lv_iadd hx hb dX5_lapsOf_7 ?_
  refine g_top (y := nI (10 + s)) (nI_add 10 s) ?_
  refine g_iald hx hb hK.1 hP 2 0 rfl rfl (i := (10 + s)) (by omega) (by decide) dX5_lapsOf_8 ?_
  refine lv_aload_n hx hb dX5_lapsOf_9 rfl (lv_at hl 0 rfl) ?_
  refine lv_iload_n hx hb dX5_lapsOf_10 rfl (lv_at hl 1 rfl) ?_
  refine lv_iload_n hx hb dX5_lapsOf_11 rfl (lv_at hl 2 rfl) ?_
  refine g_rdV (As := [.int (nI s), .int k]) (rest := [.int (m.st (10 + s))]) (nL := 3) hx hb hml hown hts (c_X5_ago lz G a m s k (by omega)) gX5_lapsOf_X5_ago rfl h_X5_ago ⟨Nat.le_of_ble_eq_true rfl, Nat.le_of_ble_eq_true rfl⟩ hK hP (ci := 5) rfl rfl rfl rfl hl.1 rfl (Nat.le_of_ble_eq_true rfl) ⟨Nat.le_refl _, Nat.le_refl _⟩ dX5_lapsOf_12 ?_
  refine lv_imul hx hb dX5_lapsOf_15 ?_
  refine lv_aload_n hx hb dX5_lapsOf_16 rfl (lv_at hl 0 rfl) ?_
  refine va_get (D := G.1) (ci := 5) (v := .int m.pl) (C := RX5) (T := TX5) (N := 21) hx hb hts i_X5_lapsOf_X5 hown hK.1 hP 0 rfl rfl 2 (by decide) f13 (fun _ h9 => h9) rfl dX5_lapsOf_17 ?_
  refine lv_idiv hx hb dX5_lapsOf_20 (by assumption) ?_
  exact g_ri hx hb hr hlocks dX5_lapsOf_21 rfl

theorem i_X5_strengthOf_X5 : ∀ w ∈ wsX50, w ∈ wsX5_strengthOf := by decide +kernel
theorem h_X5_strengthOf : yX5_strengthOf.cls = RX5 ∧ yX5_strengthOf.cls ≠ "java/lang/invoke/MethodHandle" ∧ yX5_strengthOf.cls ≠ "java/lang/invoke/VarHandle" ∧ (parseMethodDescriptor yX5_strengthOf.desc).map (fun d => d.parameters.length) = some 2 := by decide +kernel
set_option maxHeartbeats 4000000 in
set_option maxRecDepth 100000 in
theorem c_X5_strengthOf (lz : Launch) (G : gG) (a : Nat → Nat) (m : MdS) (s : Nat) (k : Int32) (hs : s < 8) (hpl : ¬ m.pl = 0) : gRd lz yX5_strengthOf wsX5_strengthOf 2 G [.ref (a 0), .int (nI s), .int k] (wMd a G.2.1 G.2.2.1 m) (dSt m s k) := by
  refine g_rd (by decide) rfl (Nat.le_of_ble_eq_true rfl) ?_
  intro pz ez sz mz bz tz cz hx hb hr hml hown hts hlocks hP hK ls hl
  have hl : lv_has ls 4 [(0, .ref (a 0)), (1, .int (nI s)), (2, .int k)] := hl
  have f17 := hts (.fieldLink RX5 17 "WhisperRingModel" "loss" "I") (by decide +kernel)
  have f20 := hts (.fieldLink RX5 20 "WhisperRingModel" "st" "[I") (by decide +kernel)
  refine lv_aload_n hx hb dX5_strengthOf_0 rfl (lv_at hl 0 rfl) ?_
  refine va_get (D := G.1) (ci := 5) (v := .ref (a 2)) (C := RX5) (T := TX5) (N := 21) hx hb hts i_X5_strengthOf_X5 hown hK.1 hP 0 rfl rfl 5 (by decide) f20 (fun _ h9 => h9) rfl dX5_strengthOf_1 ?_
  refine lv_bipush (v := 26) hx hb dX5_strengthOf_4 (by decide) ?_
  refine lv_iload_n hx hb dX5_strengthOf_6 rfl (lv_at hl 1 rfl) ?_
  refine lv_iadd hx hb dX5_strengthOf_7 ?_
  refine g_top (y := nI (26 + s)) (nI_add 26 s) ?_
  refine g_iald hx hb hK.1 hP 2 0 rfl rfl (i := (26 + s)) (by omega) (by decide) dX5_strengthOf_8 ?_
  refine lv_aload_n hx hb dX5_strengthOf_9 rfl (lv_at hl 0 rfl) ?_
  refine va_get (D := G.1) (ci := 5) (v := .int m.loss) (C := RX5) (T := TX5) (N := 21) hx hb hts i_X5_strengthOf_X5 hown hK.1 hP 0 rfl rfl 3 (by decide) f17 (fun _ h9 => h9) rfl dX5_strengthOf_10 ?_
  refine lv_aload_n hx hb dX5_strengthOf_13 rfl (lv_at hl 0 rfl) ?_
  refine lv_iload_n hx hb dX5_strengthOf_14 rfl (lv_at hl 1 rfl) ?_
  refine lv_iload_n hx hb dX5_strengthOf_15 rfl (lv_at hl 2 rfl) ?_
  refine g_rdV (As := [.int (nI s), .int k]) (rest := [.int m.loss, .int (m.st (26 + s))]) (nL := 4) hx hb hml hown hts (c_X5_lapsOf lz G a m s k (by omega) hpl) gX5_strengthOf_X5_lapsOf rfl h_X5_lapsOf ⟨Nat.le_of_ble_eq_true rfl, Nat.le_of_ble_eq_true rfl⟩ hK hP (ci := 5) rfl rfl rfl rfl hl.1 rfl (Nat.le_of_ble_eq_true rfl) ⟨Nat.le_refl _, Nat.le_refl _⟩ dX5_strengthOf_16 ?_
  refine lv_imul hx hb dX5_strengthOf_19 ?_
  refine lv_isub hx hb dX5_strengthOf_20 ?_
  refine lv_istore_n (lv' := [(3, .int ((m.st (26 + s)) - (m.loss * (dLa m s k)))), (0, .ref (a 0)), (1, .int (nI s)), (2, .int k)]) hx hb dX5_strengthOf_21 rfl hl (by decide) rfl (fun ls hl => ?_)
  refine lv_iload_n hx hb dX5_strengthOf_22 rfl (lv_at hl 0 rfl) ?_
  refine lv_if_lt (tgt := 39) hx hb dX5_strengthOf_23 (by decide) (fun c_1 => ?_) (fun c_1 => ?_)
  · skip
    refine lv_iconst (v := 0) hx hb dX5_strengthOf_39 (by decide) ?_
    refine lv_goto (tgt := 44) hx hb dX5_strengthOf_40 (by decide) ?_
    exact g_ri hx hb hr hlocks dX5_strengthOf_44 (by rw [dSt] <;> (first | done | rw [if_pos c_1] | rw [if_neg c_1] | rw [if_neg (by rw [c_1]; decide)] | skip) <;> (first | done | rfl | (simp only [c_1]; rfl) | (simp [c_1, bI]; done)))
  · skip
    refine lv_aload_n hx hb dX5_strengthOf_26 rfl (lv_at hl 1 rfl) ?_
    refine va_get (D := G.1) (ci := 5) (v := .ref (a 2)) (C := RX5) (T := TX5) (N := 21) hx hb hts i_X5_strengthOf_X5 hown hK.1 hP 0 rfl rfl 5 (by decide) f20 (fun _ h9 => h9) rfl dX5_strengthOf_27 ?_
    refine lv_bipush (v := 42) hx hb dX5_strengthOf_30 (by decide) ?_
    refine lv_iload_n hx hb dX5_strengthOf_32 rfl (lv_at hl 2 rfl) ?_
    refine lv_iadd hx hb dX5_strengthOf_33 ?_
    refine g_top (y := nI (42 + s)) (nI_add 42 s) ?_
    refine g_iald hx hb hK.1 hP 2 0 rfl rfl (i := (42 + s)) (by omega) (by decide) dX5_strengthOf_34 ?_
    refine lv_iconst (v := 1) hx hb dX5_strengthOf_35 (by decide) ?_
    refine lv_icmp_ne (tgt := 43) hx hb dX5_strengthOf_36 (by decide) (fun c_2 => ?_) (fun c_2 => ?_)
    · skip
      refine lv_iload_n hx hb dX5_strengthOf_43 rfl (lv_at hl 0 rfl) ?_
      exact g_ri hx hb hr hlocks dX5_strengthOf_44 (by rw [dSt] <;> (first | done | rw [if_pos c_1] | rw [if_neg c_1] | rw [if_neg (by rw [c_1]; decide)] | skip) <;> (first | done | rw [if_pos c_2] | rw [if_neg c_2] | rw [if_neg (by rw [c_2]; decide)] | skip) <;> (first | done | rfl | (simp only [c_1, c_2]; rfl) | (simp [c_1, c_2, bI]; done)))
    · skip
      refine lv_iconst (v := 0) hx hb dX5_strengthOf_39 (by decide) ?_
      refine lv_goto (tgt := 44) hx hb dX5_strengthOf_40 (by decide) ?_
      exact g_ri hx hb hr hlocks dX5_strengthOf_44 (by rw [dSt] <;> (first | done | rw [if_pos c_1] | rw [if_neg c_1] | rw [if_neg (by rw [c_1]; decide)] | skip) <;> (first | done | rw [if_pos c_2] | rw [if_neg c_2] | rw [if_neg (by rw [c_2]; decide)] | skip) <;> (first | done | rfl | (simp only [c_1, c_2]; rfl) | (simp [c_1, c_2, bI]; done)))

theorem i_X5_soundsOf_X5 : ∀ w ∈ wsX50, w ∈ wsX5_soundsOf := by decide +kernel
theorem h_X5_soundsOf : yX5_soundsOf.cls = RX5 ∧ yX5_soundsOf.cls ≠ "java/lang/invoke/MethodHandle" ∧ yX5_soundsOf.cls ≠ "java/lang/invoke/VarHandle" ∧ (parseMethodDescriptor yX5_soundsOf.desc).map (fun d => d.parameters.length) = some 2 := by decide +kernel
set_option maxHeartbeats 4000000 in
set_option maxRecDepth 100000 in
theorem c_X5_soundsOf (lz : Launch) (G : gG) (a : Nat → Nat) (m : MdS) (n : Nat) (p k : Int32) (hn : m.st 1 = nI n) (hn8 : n ≤ 8) (hpl : ¬ m.pl = 0) : gRd lz yX5_soundsOf wsX5_soundsOf 3 G [.ref (a 0), .int p, .int k] (wMd a G.2.1 G.2.2.1 m) (dSn m n p k) := by
  refine g_rd (by decide) rfl (Nat.le_of_ble_eq_true rfl) ?_
  intro pz ez sz mz bz tz cz hx hb hr hml hown hts hlocks hP hK ls hl
  have hl : lv_has ls 5 [(0, .ref (a 0)), (1, .int p), (2, .int k)] := hl
  have f20 := hts (.fieldLink RX5 20 "WhisperRingModel" "st" "[I") (by decide +kernel)
  refine lv_iconst (v := 0) hx hb dX5_soundsOf_0 (by decide) ?_
  refine lv_istore_n (lv' := [(3, .int 0), (0, .ref (a 0)), (1, .int p), (2, .int k)]) hx hb dX5_soundsOf_1 rfl hl (by decide) rfl (fun ls hl => ?_)
  refine lv_iconst (v := 0) hx hb dX5_soundsOf_2 (by decide) ?_
  refine lv_istore (lv' := [(4, .int 0), (3, .int 0), (0, .ref (a 0)), (1, .int p), (2, .int k)]) hx hb dX5_soundsOf_3 hl (by decide) rfl (fun ls hl => ?_)
  have lp_5 : ∀ (fu_5 : Nat) (i : Nat) (x : Int32), (i ≤ n) → (x = bitsOf (fun s => decide (0 < dSt m s k) && decide (dPl m s k = p)) i) → n - i < fu_5 → ∀ ls : Array Slot, lv_has ls 5 [(0, .ref (a 0)), (1, .int p), (2, .int k), (3, .int x), (4, .int (nI i))] → W pz lz ez (gRm 3) sz mz ([.ref (a 0), .int p, .int k] : List Value).toArray bz tz cz sz.heap [] 0 0 (MQ bz (vp_Si (fun xx_ => xx_ = dSn m n p k)) ([.ref (a 0), .int p, .int k] : List Value).toArray sz 0 0 (fun _ => False)) (F0 mz 5 ls []) := by
    intro fu_5
    induction fu_5 with
    | zero =>
      intro i x hi hac hf_5
      exact absurd hf_5 (Nat.not_lt_zero _)
    | succ fu_5 ih_5 =>
      intro i x hi hac hf_5 ls hl
      refine lv_iload hx hb dX5_soundsOf_5 (lv_at hl 4 rfl) ?_
      refine lv_aload_n hx hb dX5_soundsOf_7 rfl (lv_at hl 0 rfl) ?_
      refine va_get (D := G.1) (ci := 5) (v := .ref (a 2)) (C := RX5) (T := TX5) (N := 21) hx hb hts i_X5_soundsOf_X5 hown hK.1 hP 0 rfl rfl 5 (by decide) f20 (fun _ h9 => h9) rfl dX5_soundsOf_8 ?_
      refine lv_iconst (v := 1) hx hb dX5_soundsOf_11 (by decide) ?_
      refine g_top (y := nI 1) rfl ?_
      refine g_iald hx hb hK.1 hP 2 0 rfl rfl (i := 1) (by omega) (by decide) dX5_soundsOf_12 ?_
      refine lv_icmp_ge (tgt := 54) hx hb dX5_soundsOf_13 (by decide) (fun c_1 => ?_) (fun c_1 => ?_)
      · skip
        have c_1 := gl_le c_1
        have hx2 : n ≤ i := gl_ex hn (by omega) (by omega) c_1
        refine lv_iload_n hx hb dX5_soundsOf_54 rfl (lv_at hl 3 rfl) ?_
        exact g_ri hx hb hr hlocks dX5_soundsOf_55 (by rw [hac, show i = n by omega]; rfl)
      · skip
        have c_1 := gl_nle c_1
        have hlt : i < n := gl_in hn (by omega) (by omega) c_1
        refine lv_iload_n hx hb dX5_soundsOf_16 rfl (lv_at hl 3 rfl) ?_
        refine lv_aload_n hx hb dX5_soundsOf_17 rfl (lv_at hl 0 rfl) ?_
        refine lv_iload hx hb dX5_soundsOf_18 (lv_at hl 4 rfl) ?_
        refine lv_iload_n hx hb dX5_soundsOf_20 rfl (lv_at hl 2 rfl) ?_
        refine g_rdV (As := [.int (nI i), .int k]) (rest := [.int x]) (nL := 5) hx hb hml hown hts (c_X5_strengthOf lz G a m i k (by omega) hpl) gX5_soundsOf_X5_strengthOf rfl h_X5_strengthOf ⟨Nat.le_of_ble_eq_true rfl, Nat.le_of_ble_eq_true rfl⟩ hK hP (ci := 5) rfl rfl rfl rfl hl.1 rfl (Nat.le_of_ble_eq_true rfl) ⟨Nat.le_refl _, Nat.le_refl _⟩ dX5_soundsOf_21 ?_
        refine lv_if_le (tgt := 45) hx hb dX5_soundsOf_24 (by decide) (fun c_2 => ?_) (fun c_2 => ?_)
        · skip
          have c_2 := gl_le c_2
          refine lv_iconst (v := 0) hx hb dX5_soundsOf_45 (by decide) ?_
          refine lv_ior hx hb dX5_soundsOf_46 ?_
          refine lv_istore_n (lv' := [(3, .int (x ||| 0)), (0, .ref (a 0)), (1, .int p), (2, .int k), (4, .int (nI i))]) hx hb dX5_soundsOf_47 rfl hl (by decide) rfl (fun ls hl => ?_)
          refine lv_iinc (v := nI (i + 1)) (lv' := [(4, .int (nI (i + 1))), (3, .int (x ||| 0)), (0, .ref (a 0)), (1, .int p), (2, .int k)]) hx hb dX5_soundsOf_48 hl (k := 4) rfl (nI_1 i) (by decide) rfl (fun ls hl => ?_)
          refine lv_goto (tgt := 5) hx hb dX5_soundsOf_51 (by decide) ?_
          exact ih_5 (i + 1) (x ||| 0) hlt (by rw [Int32.or_zero]; exact bO_n hac (by simp [c_2])) (by omega) ls (lv_sub hl [2, 3, 4, 1, 0] rfl)
        · skip
          have c_2 := gl_nle c_2
          refine lv_aload_n hx hb dX5_soundsOf_27 rfl (lv_at hl 0 rfl) ?_
          refine lv_iload hx hb dX5_soundsOf_28 (lv_at hl 4 rfl) ?_
          refine lv_iload_n hx hb dX5_soundsOf_30 rfl (lv_at hl 2 rfl) ?_
          refine g_rdV (As := [.int (nI i), .int k]) (rest := [.int x]) (nL := 5) hx hb hml hown hts (c_X5_placeOf lz G a m i k (by omega) hpl) gX5_soundsOf_X5_placeOf rfl h_X5_placeOf ⟨Nat.le_of_ble_eq_true rfl, Nat.le_of_ble_eq_true rfl⟩ hK hP (ci := 5) rfl rfl rfl rfl hl.1 rfl (Nat.le_of_ble_eq_true rfl) ⟨Nat.le_refl _, Nat.le_refl _⟩ dX5_soundsOf_31 ?_
          refine lv_iload_n hx hb dX5_soundsOf_34 rfl (lv_at hl 1 rfl) ?_
          refine lv_icmp_ne (tgt := 45) hx hb dX5_soundsOf_35 (by decide) (fun c_3 => ?_) (fun c_3 => ?_)
          · skip
            refine lv_iconst (v := 0) hx hb dX5_soundsOf_45 (by decide) ?_
            refine lv_ior hx hb dX5_soundsOf_46 ?_
            refine lv_istore_n (lv' := [(3, .int (x ||| 0)), (0, .ref (a 0)), (1, .int p), (2, .int k), (4, .int (nI i))]) hx hb dX5_soundsOf_47 rfl hl (by decide) rfl (fun ls hl => ?_)
            refine lv_iinc (v := nI (i + 1)) (lv' := [(4, .int (nI (i + 1))), (3, .int (x ||| 0)), (0, .ref (a 0)), (1, .int p), (2, .int k)]) hx hb dX5_soundsOf_48 hl (k := 4) rfl (nI_1 i) (by decide) rfl (fun ls hl => ?_)
            refine lv_goto (tgt := 5) hx hb dX5_soundsOf_51 (by decide) ?_
            exact ih_5 (i + 1) (x ||| 0) hlt (by rw [Int32.or_zero]; exact bO_n hac (by simp [c_2, c_3])) (by omega) ls (lv_sub hl [2, 3, 4, 1, 0] rfl)
          · skip
            refine lv_iconst (v := 1) hx hb dX5_soundsOf_38 (by decide) ?_
            refine lv_iload hx hb dX5_soundsOf_39 (lv_at hl 4 rfl) ?_
            refine lv_ishl hx hb dX5_soundsOf_41 ?_
            refine lv_goto (tgt := 46) hx hb dX5_soundsOf_42 (by decide) ?_
            refine lv_ior hx hb dX5_soundsOf_46 ?_
            refine lv_istore_n (lv' := [(3, .int (x ||| (1 <<< ((nI i) &&& 31)))), (0, .ref (a 0)), (1, .int p), (2, .int k), (4, .int (nI i))]) hx hb dX5_soundsOf_47 rfl hl (by decide) rfl (fun ls hl => ?_)
            refine lv_iinc (v := nI (i + 1)) (lv' := [(4, .int (nI (i + 1))), (3, .int (x ||| (1 <<< ((nI i) &&& 31)))), (0, .ref (a 0)), (1, .int p), (2, .int k)]) hx hb dX5_soundsOf_48 hl (k := 4) rfl (nI_1 i) (by decide) rfl (fun ls hl => ?_)
            refine lv_goto (tgt := 5) hx hb dX5_soundsOf_51 (by decide) ?_
            exact ih_5 (i + 1) (x ||| (1 <<< ((nI i) &&& 31))) hlt (bO_y hac (by simp [c_2, c_3])) (by omega) ls (lv_sub hl [2, 3, 4, 1, 0] rfl)
  exact lp_5 ((n - 0) + 1) 0 0 (Nat.zero_le _) rfl (Nat.lt_succ_self _) ls (lv_sub hl [2, 3, 4, 1, 0] rfl)

theorem i_X5_loudOf_X5 : ∀ w ∈ wsX50, w ∈ wsX5_loudOf := by decide +kernel
theorem h_X5_loudOf : yX5_loudOf.cls = RX5 ∧ yX5_loudOf.cls ≠ "java/lang/invoke/MethodHandle" ∧ yX5_loudOf.cls ≠ "java/lang/invoke/VarHandle" ∧ (parseMethodDescriptor yX5_loudOf.desc).map (fun d => d.parameters.length) = some 2 := by decide +kernel
set_option maxHeartbeats 4000000 in
set_option maxRecDepth 100000 in
theorem c_X5_loudOf (lz : Launch) (G : gG) (a : Nat → Nat) (m : MdS) (n : Nat) (b k : Int32) (hn : m.st 1 = nI n) (hn8 : n ≤ 8) (hpl : ¬ m.pl = 0) : gRd lz yX5_loudOf wsX5_loudOf 3 G [.ref (a 0), .int b, .int k] (wMd a G.2.1 G.2.2.1 m) (dLo m n b k) := by
  refine g_rd (by decide) rfl (Nat.le_of_ble_eq_true rfl) ?_
  intro pz ez sz mz bz tz cz hx hb hr hml hown hts hlocks hP hK ls hl
  have hl : lv_has ls 5 [(0, .ref (a 0)), (1, .int b), (2, .int k)] := hl
  have f20 := hts (.fieldLink RX5 20 "WhisperRingModel" "st" "[I") (by decide +kernel)
  refine lv_iconst (v := 0) hx hb dX5_loudOf_0 (by decide) ?_
  refine lv_istore_n (lv' := [(3, .int 0), (0, .ref (a 0)), (1, .int b), (2, .int k)]) hx hb dX5_loudOf_1 rfl hl (by decide) rfl (fun ls hl => ?_)
  refine lv_iconst (v := 0) hx hb dX5_loudOf_2 (by decide) ?_
  refine lv_istore (lv' := [(4, .int 0), (3, .int 0), (0, .ref (a 0)), (1, .int b), (2, .int k)]) hx hb dX5_loudOf_3 hl (by decide) rfl (fun ls hl => ?_)
  have lp_5 : ∀ (fu_5 : Nat) (i : Nat) (x : Int32), (i ≤ n) → (x = sumOf (fun s => hasB b (nI s)) (fun s => dSt m s k) i) → n - i < fu_5 → ∀ ls : Array Slot, lv_has ls 5 [(0, .ref (a 0)), (1, .int b), (2, .int k), (3, .int x), (4, .int (nI i))] → W pz lz ez (gRm 3) sz mz ([.ref (a 0), .int b, .int k] : List Value).toArray bz tz cz sz.heap [] 0 0 (MQ bz (vp_Si (fun xx_ => xx_ = dLo m n b k)) ([.ref (a 0), .int b, .int k] : List Value).toArray sz 0 0 (fun _ => False)) (F0 mz 5 ls []) := by
    intro fu_5
    induction fu_5 with
    | zero =>
      intro i x hi hac hf_5
      exact absurd hf_5 (Nat.not_lt_zero _)
    | succ fu_5 ih_5 =>
      intro i x hi hac hf_5 ls hl
      refine lv_iload hx hb dX5_loudOf_5 (lv_at hl 4 rfl) ?_
      refine lv_aload_n hx hb dX5_loudOf_7 rfl (lv_at hl 0 rfl) ?_
      refine va_get (D := G.1) (ci := 5) (v := .ref (a 2)) (C := RX5) (T := TX5) (N := 21) hx hb hts i_X5_loudOf_X5 hown hK.1 hP 0 rfl rfl 5 (by decide) f20 (fun _ h9 => h9) rfl dX5_loudOf_8 ?_
      refine lv_iconst (v := 1) hx hb dX5_loudOf_11 (by decide) ?_
      refine g_top (y := nI 1) rfl ?_
      refine g_iald hx hb hK.1 hP 2 0 rfl rfl (i := 1) (by omega) (by decide) dX5_loudOf_12 ?_
      refine lv_icmp_ge (tgt := 45) hx hb dX5_loudOf_13 (by decide) (fun c_1 => ?_) (fun c_1 => ?_)
      · skip
        have c_1 := gl_le c_1
        have hx2 : n ≤ i := gl_ex hn (by omega) (by omega) c_1
        refine lv_iload_n hx hb dX5_loudOf_45 rfl (lv_at hl 3 rfl) ?_
        exact g_ri hx hb hr hlocks dX5_loudOf_46 (by rw [hac, show i = n by omega]; rfl)
      · skip
        have c_1 := gl_nle c_1
        have hlt : i < n := gl_in hn (by omega) (by omega) c_1
        refine lv_iload_n hx hb dX5_loudOf_16 rfl (lv_at hl 3 rfl) ?_
        refine lv_iload_n hx hb dX5_loudOf_17 rfl (lv_at hl 1 rfl) ?_
        refine lv_iload hx hb dX5_loudOf_18 (lv_at hl 4 rfl) ?_
        refine g_rdS (As := [.int b, .int (nI i)]) (rest := [.int x]) (nL := 5) hx hb hml hown hts (c_X5_has lz G b (nI i)) gX5_loudOf_X5_has rfl h_X5_has ⟨Nat.le_of_ble_eq_true rfl, Nat.le_of_ble_eq_true rfl⟩ hK gP_nil rfl hl.1 rfl (Nat.le_of_ble_eq_true rfl) ⟨Nat.le_refl _, Nat.le_refl _⟩ dX5_loudOf_20 ?_
        refine lv_if_eq (tgt := 36) hx hb dX5_loudOf_23 (by decide) (fun c_2 => ?_) (fun c_2 => ?_)
        · skip
          have c_2 := bI_0 c_2
          refine lv_iconst (v := 0) hx hb dX5_loudOf_36 (by decide) ?_
          refine lv_iadd hx hb dX5_loudOf_37 ?_
          refine lv_istore_n (lv' := [(3, .int (x + 0)), (0, .ref (a 0)), (1, .int b), (2, .int k), (4, .int (nI i))]) hx hb dX5_loudOf_38 rfl hl (by decide) rfl (fun ls hl => ?_)
          refine lv_iinc (v := nI (i + 1)) (lv' := [(4, .int (nI (i + 1))), (3, .int (x + 0)), (0, .ref (a 0)), (1, .int b), (2, .int k)]) hx hb dX5_loudOf_39 hl (k := 4) rfl (nI_1 i) (by decide) rfl (fun ls hl => ?_)
          refine lv_goto (tgt := 5) hx hb dX5_loudOf_42 (by decide) ?_
          exact ih_5 (i + 1) (x + 0) hlt (by rw [Int32.add_zero]; exact sO_n hac (by simp [c_2])) (by omega) ls (lv_sub hl [2, 3, 4, 1, 0] rfl)
        · skip
          have c_2 := bI_1 c_2
          refine lv_aload_n hx hb dX5_loudOf_26 rfl (lv_at hl 0 rfl) ?_
          refine lv_iload hx hb dX5_loudOf_27 (lv_at hl 4 rfl) ?_
          refine lv_iload_n hx hb dX5_loudOf_29 rfl (lv_at hl 2 rfl) ?_
          refine g_rdV (As := [.int (nI i), .int k]) (rest := [.int x]) (nL := 5) hx hb hml hown hts (c_X5_strengthOf lz G a m i k (by omega) hpl) gX5_loudOf_X5_strengthOf rfl h_X5_strengthOf ⟨Nat.le_of_ble_eq_true rfl, Nat.le_of_ble_eq_true rfl⟩ hK hP (ci := 5) rfl rfl rfl rfl hl.1 rfl (Nat.le_of_ble_eq_true rfl) ⟨Nat.le_refl _, Nat.le_refl _⟩ dX5_loudOf_30 ?_
          refine lv_goto (tgt := 37) hx hb dX5_loudOf_33 (by decide) ?_
          refine lv_iadd hx hb dX5_loudOf_37 ?_
          refine lv_istore_n (lv' := [(3, .int (x + (dSt m i k))), (0, .ref (a 0)), (1, .int b), (2, .int k), (4, .int (nI i))]) hx hb dX5_loudOf_38 rfl hl (by decide) rfl (fun ls hl => ?_)
          refine lv_iinc (v := nI (i + 1)) (lv' := [(4, .int (nI (i + 1))), (3, .int (x + (dSt m i k))), (0, .ref (a 0)), (1, .int b), (2, .int k)]) hx hb dX5_loudOf_39 hl (k := 4) rfl (nI_1 i) (by decide) rfl (fun ls hl => ?_)
          refine lv_goto (tgt := 5) hx hb dX5_loudOf_42 (by decide) ?_
          exact ih_5 (i + 1) (x + (dSt m i k)) hlt (sO_y hac (by simp [c_2])) (by omega) ls (lv_sub hl [2, 3, 4, 1, 0] rfl)
  exact lp_5 ((n - 0) + 1) 0 0 (Nat.zero_le _) rfl (Nat.lt_succ_self _) ls (lv_sub hl [2, 3, 4, 1, 0] rfl)

theorem i_X5_clearOf_X5 : ∀ w ∈ wsX50, w ∈ wsX5_clearOf := by decide +kernel
theorem h_X5_clearOf : yX5_clearOf.cls = RX5 ∧ yX5_clearOf.cls ≠ "java/lang/invoke/MethodHandle" ∧ yX5_clearOf.cls ≠ "java/lang/invoke/VarHandle" ∧ (parseMethodDescriptor yX5_clearOf.desc).map (fun d => d.parameters.length) = some 2 := by decide +kernel
set_option maxHeartbeats 4000000 in
set_option maxRecDepth 100000 in
theorem c_X5_clearOf (lz : Launch) (G : gG) (a : Nat → Nat) (m : MdS) (n : Nat) (b k : Int32) (hn : m.st 1 = nI n) (hn8 : n ≤ 8) (hpl : ¬ m.pl = 0) : gRd lz yX5_clearOf wsX5_clearOf 4 G [.ref (a 0), .int b, .int k] (wMd a G.2.1 G.2.2.1 m) (dCl m n b k) := by
  refine g_rd (by decide) rfl (Nat.le_of_ble_eq_true rfl) ?_
  intro pz ez sz mz bz tz cz hx hb hr hml hown hts hlocks hP hK ls hl
  have hl : lv_has ls 6 [(0, .ref (a 0)), (1, .int b), (2, .int k)] := hl
  have f20 := hts (.fieldLink RX5 20 "WhisperRingModel" "st" "[I") (by decide +kernel)
  refine lv_aload_n hx hb dX5_clearOf_0 rfl (lv_at hl 0 rfl) ?_
  refine lv_iload_n hx hb dX5_clearOf_1 rfl (lv_at hl 1 rfl) ?_
  refine lv_iload_n hx hb dX5_clearOf_2 rfl (lv_at hl 2 rfl) ?_
  refine g_rdV (As := [.int b, .int k]) (rest := []) (nL := 6) hx hb hml hown hts (c_X5_loudOf lz G a m n b k hn hn8 hpl) gX5_clearOf_X5_loudOf rfl h_X5_loudOf ⟨Nat.le_of_ble_eq_true rfl, Nat.le_of_ble_eq_true rfl⟩ hK hP (ci := 5) rfl rfl rfl rfl hl.1 rfl (Nat.le_of_ble_eq_true rfl) ⟨Nat.le_refl _, Nat.le_refl _⟩ dX5_clearOf_3 ?_
  refine lv_istore_n (lv' := [(3, .int (dLo m n b k)), (0, .ref (a 0)), (1, .int b), (2, .int k)]) hx hb dX5_clearOf_6 rfl hl (by decide) rfl (fun ls hl => ?_)
  refine lv_bipush (v := (-9)) hx hb dX5_clearOf_7 (by decide) ?_
  refine lv_istore (lv' := [(4, .int (-9)), (3, .int (dLo m n b k)), (0, .ref (a 0)), (1, .int b), (2, .int k)]) hx hb dX5_clearOf_9 hl (by decide) rfl (fun ls hl => ?_)
  refine lv_iconst (v := 0) hx hb dX5_clearOf_11 (by decide) ?_
  refine lv_istore (lv' := [(5, .int 0), (4, .int (-9)), (3, .int (dLo m n b k)), (0, .ref (a 0)), (1, .int b), (2, .int k)]) hx hb dX5_clearOf_12 hl (by decide) rfl (fun ls hl => ?_)
  have lp_14 : ∀ (fu_14 : Nat) (i : Nat) (x : Int32), (i ≤ n) → (x = lastI (fun s => hasB b (nI s) && decide (dLo m n b k < 2 * dSt m s k)) i) → n - i < fu_14 → ∀ ls : Array Slot, lv_has ls 6 [(0, .ref (a 0)), (1, .int b), (2, .int k), (3, .int (dLo m n b k)), (4, .int x), (5, .int (nI i))] → W pz lz ez (gRm 4) sz mz ([.ref (a 0), .int b, .int k] : List Value).toArray bz tz cz sz.heap [] 0 0 (MQ bz (vp_Si (fun xx_ => xx_ = dCl m n b k)) ([.ref (a 0), .int b, .int k] : List Value).toArray sz 0 0 (fun _ => False)) (F0 mz 14 ls []) := by
    intro fu_14
    induction fu_14 with
    | zero =>
      intro i x hi hac hf_14
      exact absurd hf_14 (Nat.not_lt_zero _)
    | succ fu_14 ih_14 =>
      intro i x hi hac hf_14 ls hl
      refine lv_iload hx hb dX5_clearOf_14 (lv_at hl 5 rfl) ?_
      refine lv_aload_n hx hb dX5_clearOf_16 rfl (lv_at hl 0 rfl) ?_
      refine va_get (D := G.1) (ci := 5) (v := .ref (a 2)) (C := RX5) (T := TX5) (N := 21) hx hb hts i_X5_clearOf_X5 hown hK.1 hP 0 rfl rfl 5 (by decide) f20 (fun _ h9 => h9) rfl dX5_clearOf_17 ?_
      refine lv_iconst (v := 1) hx hb dX5_clearOf_20 (by decide) ?_
      refine g_top (y := nI 1) rfl ?_
      refine g_iald hx hb hK.1 hP 2 0 rfl rfl (i := 1) (by omega) (by decide) dX5_clearOf_21 ?_
      refine lv_icmp_ge (tgt := 62) hx hb dX5_clearOf_22 (by decide) (fun c_1 => ?_) (fun c_1 => ?_)
      · skip
        have c_1 := gl_le c_1
        have hx2 : n ≤ i := gl_ex hn (by omega) (by omega) c_1
        refine lv_iload hx hb dX5_clearOf_62 (lv_at hl 4 rfl) ?_
        exact g_ri hx hb hr hlocks dX5_clearOf_64 (by rw [hac, show i = n by omega]; rfl)
      · skip
        have c_1 := gl_nle c_1
        have hlt : i < n := gl_in hn (by omega) (by omega) c_1
        refine lv_iload_n hx hb dX5_clearOf_25 rfl (lv_at hl 1 rfl) ?_
        refine lv_iload hx hb dX5_clearOf_26 (lv_at hl 5 rfl) ?_
        refine g_rdS (As := [.int b, .int (nI i)]) (rest := []) (nL := 6) hx hb hml hown hts (c_X5_has lz G b (nI i)) gX5_clearOf_X5_has rfl h_X5_has ⟨Nat.le_of_ble_eq_true rfl, Nat.le_of_ble_eq_true rfl⟩ hK gP_nil rfl hl.1 rfl (Nat.le_of_ble_eq_true rfl) ⟨Nat.le_refl _, Nat.le_refl _⟩ dX5_clearOf_28 ?_
        refine lv_if_eq (tgt := 52) hx hb dX5_clearOf_31 (by decide) (fun c_2 => ?_) (fun c_2 => ?_)
        · skip
          have c_2 := bI_0 c_2
          refine lv_iload hx hb dX5_clearOf_52 (lv_at hl 4 rfl) ?_
          refine lv_istore (lv' := [(4, .int x), (0, .ref (a 0)), (1, .int b), (2, .int k), (3, .int (dLo m n b k)), (5, .int (nI i))]) hx hb dX5_clearOf_54 hl (by decide) rfl (fun ls hl => ?_)
          refine lv_iinc (v := nI (i + 1)) (lv' := [(5, .int (nI (i + 1))), (4, .int x), (0, .ref (a 0)), (1, .int b), (2, .int k), (3, .int (dLo m n b k))]) hx hb dX5_clearOf_56 hl (k := 5) rfl (nI_1 i) (by decide) rfl (fun ls hl => ?_)
          refine lv_goto (tgt := 14) hx hb dX5_clearOf_59 (by decide) ?_
          exact ih_14 (i + 1) x hlt (lI_n hac (by simp [c_2])) (by omega) ls (lv_sub hl [2, 3, 4, 5, 1, 0] rfl)
        · skip
          have c_2 := bI_1 c_2
          refine lv_iconst (v := 2) hx hb dX5_clearOf_34 (by decide) ?_
          refine lv_aload_n hx hb dX5_clearOf_35 rfl (lv_at hl 0 rfl) ?_
          refine lv_iload hx hb dX5_clearOf_36 (lv_at hl 5 rfl) ?_
          refine lv_iload_n hx hb dX5_clearOf_38 rfl (lv_at hl 2 rfl) ?_
          refine g_rdV (As := [.int (nI i), .int k]) (rest := [.int 2]) (nL := 6) hx hb hml hown hts (c_X5_strengthOf lz G a m i k (by omega) hpl) gX5_clearOf_X5_strengthOf rfl h_X5_strengthOf ⟨Nat.le_of_ble_eq_true rfl, Nat.le_of_ble_eq_true rfl⟩ hK hP (ci := 5) rfl rfl rfl rfl hl.1 rfl (Nat.le_of_ble_eq_true rfl) ⟨Nat.le_refl _, Nat.le_refl _⟩ dX5_clearOf_39 ?_
          refine lv_imul hx hb dX5_clearOf_42 ?_
          refine lv_iload_n hx hb dX5_clearOf_43 rfl (lv_at hl 3 rfl) ?_
          refine lv_icmp_le (tgt := 52) hx hb dX5_clearOf_44 (by decide) (fun c_3 => ?_) (fun c_3 => ?_)
          · skip
            have c_3 := gl_le c_3
            refine lv_iload hx hb dX5_clearOf_52 (lv_at hl 4 rfl) ?_
            refine lv_istore (lv' := [(4, .int x), (0, .ref (a 0)), (1, .int b), (2, .int k), (3, .int (dLo m n b k)), (5, .int (nI i))]) hx hb dX5_clearOf_54 hl (by decide) rfl (fun ls hl => ?_)
            refine lv_iinc (v := nI (i + 1)) (lv' := [(5, .int (nI (i + 1))), (4, .int x), (0, .ref (a 0)), (1, .int b), (2, .int k), (3, .int (dLo m n b k))]) hx hb dX5_clearOf_56 hl (k := 5) rfl (nI_1 i) (by decide) rfl (fun ls hl => ?_)
            refine lv_goto (tgt := 14) hx hb dX5_clearOf_59 (by decide) ?_
            exact ih_14 (i + 1) x hlt (lI_n hac (by simp [c_2, c_3])) (by omega) ls (lv_sub hl [2, 3, 4, 5, 1, 0] rfl)
          · skip
            have c_3 := gl_nle c_3
            refine lv_iload hx hb dX5_clearOf_47 (lv_at hl 5 rfl) ?_
            refine lv_goto (tgt := 54) hx hb dX5_clearOf_49 (by decide) ?_
            refine lv_istore (lv' := [(4, .int (nI i)), (0, .ref (a 0)), (1, .int b), (2, .int k), (3, .int (dLo m n b k)), (5, .int (nI i))]) hx hb dX5_clearOf_54 hl (by decide) rfl (fun ls hl => ?_)
            refine lv_iinc (v := nI (i + 1)) (lv' := [(5, .int (nI (i + 1))), (4, .int (nI i)), (0, .ref (a 0)), (1, .int b), (2, .int k), (3, .int (dLo m n b k))]) hx hb dX5_clearOf_56 hl (k := 5) rfl (nI_1 i) (by decide) rfl (fun ls hl => ?_)
            refine lv_goto (tgt := 14) hx hb dX5_clearOf_59 (by decide) ?_
            exact ih_14 (i + 1) (nI i) hlt (lI_y (by simp [c_2, c_3])) (by omega) ls (lv_sub hl [2, 3, 4, 5, 1, 0] rfl)
  exact lp_14 ((n - 0) + 1) 0 (-9) (Nat.zero_le _) rfl (Nat.lt_succ_self _) ls (lv_sub hl [3, 4, 5, 2, 1, 0] rfl)

theorem h_X5_lastOf : yX5_lastOf.cls = RX5 ∧ yX5_lastOf.cls ≠ "java/lang/invoke/MethodHandle" ∧ yX5_lastOf.cls ≠ "java/lang/invoke/VarHandle" ∧ (parseMethodDescriptor yX5_lastOf.desc).map (fun d => d.parameters.length) = some 1 := by decide +kernel
set_option maxHeartbeats 4000000 in
set_option maxRecDepth 100000 in
theorem c_X5_lastOf (lz : Launch) (G : gG) (a : Nat → Nat) (m : MdS) (s : Nat) (hs : s < 8) (hpl : ¬ m.pl = 0) : gRd lz yX5_lastOf wsX5_lastOf 3 G [.ref (a 0), .int (nI s)] (wMd a G.2.1 G.2.2.1 m) (dLs m s) := by
  refine g_rd (by decide) rfl (Nat.le_of_ble_eq_true rfl) ?_
  intro pz ez sz mz bz tz cz hx hb hr hml hown hts hlocks hP hK ls hl
  have hl : lv_has ls 3 [(0, .ref (a 0)), (1, .int (nI s))] := hl
  refine lv_iconst (v := 0) hx hb dX5_lastOf_0 (by decide) ?_
  refine lv_istore_n (lv' := [(2, .int 0), (0, .ref (a 0)), (1, .int (nI s))]) hx hb dX5_lastOf_1 rfl hl (by decide) rfl (fun ls hl => ?_)
  have lp_2 : ∀ (fu_2 : Nat) (i : Nat), (i ≤ 1000) → (firstF (fun k => decide (dSt m s (nI k) = 0)) 1000 0 = firstF (fun k => decide (dSt m s (nI k) = 0)) (1000 - i) i) → 1000 - i < fu_2 → ∀ ls : Array Slot, lv_has ls 3 [(0, .ref (a 0)), (1, .int (nI s)), (2, .int (nI i))] → W pz lz ez (gRm 3) sz mz ([.ref (a 0), .int (nI s)] : List Value).toArray bz tz cz sz.heap [] 0 0 (MQ bz (vp_Si (fun xx_ => xx_ = dLs m s)) ([.ref (a 0), .int (nI s)] : List Value).toArray sz 0 0 (fun _ => False)) (F0 mz 2 ls []) := by
    intro fu_2
    induction fu_2 with
    | zero =>
      intro i hi he hf_2
      exact absurd hf_2 (Nat.not_lt_zero _)
    | succ fu_2 ih_2 =>
      intro i hi he hf_2 ls hl
      refine lv_iload_n hx hb dX5_lastOf_2 rfl (lv_at hl 2 rfl) ?_
      refine lv_sipush (v := 999) hx hb dX5_lastOf_3 (by decide) ?_
      refine lv_icmp_gt (tgt := 26) hx hb dX5_lastOf_6 (by decide) (fun c_1 => ?_) (fun c_1 => ?_)
      · skip
        have hx2 : 1000 ≤ i := gl_cx (k := 999) rfl (by decide) (by omega) c_1
        refine lv_bipush (v := (-9)) hx hb dX5_lastOf_26 (by decide) ?_
        exact g_ri hx hb hr hlocks dX5_lastOf_28 (oI_n (fF_e he hx2))
      · skip
        have hlt : i < 1000 := Nat.lt_succ_of_le (gl_ci (k := 999) rfl (by decide) (by omega) c_1)
        refine lv_aload_n hx hb dX5_lastOf_9 rfl (lv_at hl 0 rfl) ?_
        refine lv_iload_n hx hb dX5_lastOf_10 rfl (lv_at hl 1 rfl) ?_
        refine lv_iload_n hx hb dX5_lastOf_11 rfl (lv_at hl 2 rfl) ?_
        refine g_rdV (As := [.int (nI s), .int (nI i)]) (rest := []) (nL := 3) hx hb hml hown hts (c_X5_strengthOf lz G a m s (nI i) (by omega) hpl) gX5_lastOf_X5_strengthOf rfl h_X5_strengthOf ⟨Nat.le_of_ble_eq_true rfl, Nat.le_of_ble_eq_true rfl⟩ hK hP (ci := 5) rfl rfl rfl rfl hl.1 rfl (Nat.le_of_ble_eq_true rfl) ⟨Nat.le_refl _, Nat.le_refl _⟩ dX5_lastOf_12 ?_
        refine lv_if_ne (tgt := 20) hx hb dX5_lastOf_15 (by decide) (fun c_2 => ?_) (fun c_2 => ?_)
        · skip
          refine lv_iinc (v := nI (i + 1)) (lv' := [(2, .int (nI (i + 1))), (0, .ref (a 0)), (1, .int (nI s))]) hx hb dX5_lastOf_20 hl (k := 2) rfl (nI_1 i) (by decide) rfl (fun ls hl => ?_)
          refine lv_goto (tgt := 2) hx hb dX5_lastOf_23 (by decide) ?_
          exact ih_2 (i + 1) hlt (fF_n he hlt (by simp [c_2])) (by omega) ls (lv_sub hl [1, 2, 0] rfl)
        · skip
          refine lv_iload_n hx hb dX5_lastOf_18 rfl (lv_at hl 2 rfl) ?_
          exact g_ri hx hb hr hlocks dX5_lastOf_19 (oI_s (fF_y he hlt (by simp [c_2])))
  exact lp_2 ((1000 - 0) + 1) 0 (Nat.zero_le _) rfl (Nat.lt_succ_self _) ls (lv_sub hl [1, 2, 0] rfl)

theorem h_X5_quietOf : yX5_quietOf.cls = RX5 ∧ yX5_quietOf.cls ≠ "java/lang/invoke/MethodHandle" ∧ yX5_quietOf.cls ≠ "java/lang/invoke/VarHandle" ∧ (parseMethodDescriptor yX5_quietOf.desc).map (fun d => d.parameters.length) = some 1 := by decide +kernel
set_option maxHeartbeats 4000000 in
set_option maxRecDepth 100000 in
theorem c_X5_quietOf (lz : Launch) (G : gG) (a : Nat → Nat) (m : MdS) (n : Nat) (p : Int32) (hn : m.st 1 = nI n) (hn8 : n ≤ 8) (hpl : ¬ m.pl = 0) : gRd lz yX5_quietOf wsX5_quietOf 4 G [.ref (a 0), .int p] (wMd a G.2.1 G.2.2.1 m) (dQu m n p) := by
  refine g_rd (by decide) rfl (Nat.le_of_ble_eq_true rfl) ?_
  intro pz ez sz mz bz tz cz hx hb hr hml hown hts hlocks hP hK ls hl
  have hl : lv_has ls 3 [(0, .ref (a 0)), (1, .int p)] := hl
  refine lv_iconst (v := 0) hx hb dX5_quietOf_0 (by decide) ?_
  refine lv_istore_n (lv' := [(2, .int 0), (0, .ref (a 0)), (1, .int p)]) hx hb dX5_quietOf_1 rfl hl (by decide) rfl (fun ls hl => ?_)
  have lp_2 : ∀ (fu_2 : Nat) (i : Nat), (i ≤ 100) → (firstF (fun k => decide (dSn m n p (nI k) = 0)) 100 0 = firstF (fun k => decide (dSn m n p (nI k) = 0)) (100 - i) i) → 100 - i < fu_2 → ∀ ls : Array Slot, lv_has ls 3 [(0, .ref (a 0)), (1, .int p), (2, .int (nI i))] → W pz lz ez (gRm 4) sz mz ([.ref (a 0), .int p] : List Value).toArray bz tz cz sz.heap [] 0 0 (MQ bz (vp_Si (fun xx_ => xx_ = dQu m n p)) ([.ref (a 0), .int p] : List Value).toArray sz 0 0 (fun _ => False)) (F0 mz 2 ls []) := by
    intro fu_2
    induction fu_2 with
    | zero =>
      intro i hi he hf_2
      exact absurd hf_2 (Nat.not_lt_zero _)
    | succ fu_2 ih_2 =>
      intro i hi he hf_2 ls hl
      refine lv_iload_n hx hb dX5_quietOf_2 rfl (lv_at hl 2 rfl) ?_
      refine lv_bipush (v := 99) hx hb dX5_quietOf_3 (by decide) ?_
      refine lv_icmp_gt (tgt := 25) hx hb dX5_quietOf_5 (by decide) (fun c_1 => ?_) (fun c_1 => ?_)
      · skip
        have hx2 : 100 ≤ i := gl_cx (k := 99) rfl (by decide) (by omega) c_1
        refine lv_bipush (v := (-9)) hx hb dX5_quietOf_25 (by decide) ?_
        exact g_ri hx hb hr hlocks dX5_quietOf_27 (oI_n (fF_e he hx2))
      · skip
        have hlt : i < 100 := Nat.lt_succ_of_le (gl_ci (k := 99) rfl (by decide) (by omega) c_1)
        refine lv_aload_n hx hb dX5_quietOf_8 rfl (lv_at hl 0 rfl) ?_
        refine lv_iload_n hx hb dX5_quietOf_9 rfl (lv_at hl 1 rfl) ?_
        refine lv_iload_n hx hb dX5_quietOf_10 rfl (lv_at hl 2 rfl) ?_
        refine g_rdV (As := [.int p, .int (nI i)]) (rest := []) (nL := 3) hx hb hml hown hts (c_X5_soundsOf lz G a m n p (nI i) hn hn8 hpl) gX5_quietOf_X5_soundsOf rfl h_X5_soundsOf ⟨Nat.le_of_ble_eq_true rfl, Nat.le_of_ble_eq_true rfl⟩ hK hP (ci := 5) rfl rfl rfl rfl hl.1 rfl (Nat.le_of_ble_eq_true rfl) ⟨Nat.le_refl _, Nat.le_refl _⟩ dX5_quietOf_11 ?_
        refine lv_if_ne (tgt := 19) hx hb dX5_quietOf_14 (by decide) (fun c_2 => ?_) (fun c_2 => ?_)
        · skip
          refine lv_iinc (v := nI (i + 1)) (lv' := [(2, .int (nI (i + 1))), (0, .ref (a 0)), (1, .int p)]) hx hb dX5_quietOf_19 hl (k := 2) rfl (nI_1 i) (by decide) rfl (fun ls hl => ?_)
          refine lv_goto (tgt := 2) hx hb dX5_quietOf_22 (by decide) ?_
          exact ih_2 (i + 1) hlt (fF_n he hlt (by simp [c_2])) (by omega) ls (lv_sub hl [1, 2, 0] rfl)
        · skip
          refine lv_iload_n hx hb dX5_quietOf_17 rfl (lv_at hl 2 rfl) ?_
          exact g_ri hx hb hr hlocks dX5_quietOf_18 (oI_s (fF_y he hlt (by simp [c_2])))
  exact lp_2 ((100 - 0) + 1) 0 (Nat.zero_le _) rfl (Nat.lt_succ_self _) ls (lv_sub hl [1, 2, 0] rfl)

theorem i_X5_alive_X5 : ∀ w ∈ wsX50, w ∈ wsX5_alive := by decide +kernel
theorem h_X5_alive : yX5_alive.cls = RX5 ∧ yX5_alive.cls ≠ "java/lang/invoke/MethodHandle" ∧ yX5_alive.cls ≠ "java/lang/invoke/VarHandle" ∧ (parseMethodDescriptor yX5_alive.desc).map (fun d => d.parameters.length) = some 0 := by decide +kernel
set_option maxHeartbeats 4000000 in
set_option maxRecDepth 100000 in
theorem c_X5_alive (lz : Launch) (G : gG) (a : Nat → Nat) (m : MdS) (n : Nat) (hn : m.st 1 = nI n) (hn8 : n ≤ 8) (hpl : ¬ m.pl = 0) : gRd lz yX5_alive wsX5_alive 3 G [.ref (a 0)] (wMd a G.2.1 G.2.2.1 m) (dAl m n) := by
  refine g_rd (by decide) rfl (Nat.le_of_ble_eq_true rfl) ?_
  intro pz ez sz mz bz tz cz hx hb hr hml hown hts hlocks hP hK ls hl
  have hl : lv_has ls 3 [(0, .ref (a 0))] := hl
  have f20 := hts (.fieldLink RX5 20 "WhisperRingModel" "st" "[I") (by decide +kernel)
  refine lv_iconst (v := 0) hx hb dX5_alive_0 (by decide) ?_
  refine lv_istore_n (lv' := [(1, .int 0), (0, .ref (a 0))]) hx hb dX5_alive_1 rfl hl (by decide) rfl (fun ls hl => ?_)
  refine lv_iconst (v := 0) hx hb dX5_alive_2 (by decide) ?_
  refine lv_istore_n (lv' := [(2, .int 0), (1, .int 0), (0, .ref (a 0))]) hx hb dX5_alive_3 rfl hl (by decide) rfl (fun ls hl => ?_)
  have lp_4 : ∀ (fu_4 : Nat) (i : Nat) (x : Int32), (i ≤ n) → (x = bitsOf (fun s => decide (0 < dSt m s 0)) i) → n - i < fu_4 → ∀ ls : Array Slot, lv_has ls 3 [(0, .ref (a 0)), (1, .int x), (2, .int (nI i))] → W pz lz ez (gRm 3) sz mz ([.ref (a 0)] : List Value).toArray bz tz cz sz.heap [] 0 0 (MQ bz (vp_Si (fun xx_ => xx_ = dAl m n)) ([.ref (a 0)] : List Value).toArray sz 0 0 (fun _ => False)) (F0 mz 4 ls []) := by
    intro fu_4
    induction fu_4 with
    | zero =>
      intro i x hi hac hf_4
      exact absurd hf_4 (Nat.not_lt_zero _)
    | succ fu_4 ih_4 =>
      intro i x hi hac hf_4 ls hl
      refine lv_iload_n hx hb dX5_alive_4 rfl (lv_at hl 2 rfl) ?_
      refine lv_aload_n hx hb dX5_alive_5 rfl (lv_at hl 0 rfl) ?_
      refine va_get (D := G.1) (ci := 5) (v := .ref (a 2)) (C := RX5) (T := TX5) (N := 21) hx hb hts i_X5_alive_X5 hown hK.1 hP 0 rfl rfl 5 (by decide) f20 (fun _ h9 => h9) rfl dX5_alive_6 ?_
      refine lv_iconst (v := 1) hx hb dX5_alive_9 (by decide) ?_
      refine g_top (y := nI 1) rfl ?_
      refine g_iald hx hb hK.1 hP 2 0 rfl rfl (i := 1) (by omega) (by decide) dX5_alive_10 ?_
      refine lv_icmp_ge (tgt := 39) hx hb dX5_alive_11 (by decide) (fun c_1 => ?_) (fun c_1 => ?_)
      · skip
        have c_1 := gl_le c_1
        have hx2 : n ≤ i := gl_ex hn (by omega) (by omega) c_1
        refine lv_iload_n hx hb dX5_alive_39 rfl (lv_at hl 1 rfl) ?_
        exact g_ri hx hb hr hlocks dX5_alive_40 (by rw [hac, show i = n by omega]; rfl)
      · skip
        have c_1 := gl_nle c_1
        have hlt : i < n := gl_in hn (by omega) (by omega) c_1
        refine lv_iload_n hx hb dX5_alive_14 rfl (lv_at hl 1 rfl) ?_
        refine lv_aload_n hx hb dX5_alive_15 rfl (lv_at hl 0 rfl) ?_
        refine lv_iload_n hx hb dX5_alive_16 rfl (lv_at hl 2 rfl) ?_
        refine lv_iconst (v := 0) hx hb dX5_alive_17 (by decide) ?_
        refine g_rdV (As := [.int (nI i), .int 0]) (rest := [.int x]) (nL := 3) hx hb hml hown hts (c_X5_strengthOf lz G a m i 0 (by omega) hpl) gX5_alive_X5_strengthOf rfl h_X5_strengthOf ⟨Nat.le_of_ble_eq_true rfl, Nat.le_of_ble_eq_true rfl⟩ hK hP (ci := 5) rfl rfl rfl rfl hl.1 rfl (Nat.le_of_ble_eq_true rfl) ⟨Nat.le_refl _, Nat.le_refl _⟩ dX5_alive_18 ?_
        refine lv_if_le (tgt := 30) hx hb dX5_alive_21 (by decide) (fun c_2 => ?_) (fun c_2 => ?_)
        · skip
          have c_2 := gl_le c_2
          refine lv_iconst (v := 0) hx hb dX5_alive_30 (by decide) ?_
          refine lv_ior hx hb dX5_alive_31 ?_
          refine lv_istore_n (lv' := [(1, .int (x ||| 0)), (0, .ref (a 0)), (2, .int (nI i))]) hx hb dX5_alive_32 rfl hl (by decide) rfl (fun ls hl => ?_)
          refine lv_iinc (v := nI (i + 1)) (lv' := [(2, .int (nI (i + 1))), (1, .int (x ||| 0)), (0, .ref (a 0))]) hx hb dX5_alive_33 hl (k := 2) rfl (nI_1 i) (by decide) rfl (fun ls hl => ?_)
          refine lv_goto (tgt := 4) hx hb dX5_alive_36 (by decide) ?_
          exact ih_4 (i + 1) (x ||| 0) hlt (by rw [Int32.or_zero]; exact bO_n hac (by simp [c_2])) (by omega) ls (lv_sub hl [2, 1, 0] rfl)
        · skip
          have c_2 := gl_nle c_2
          refine lv_iconst (v := 1) hx hb dX5_alive_24 (by decide) ?_
          refine lv_iload_n hx hb dX5_alive_25 rfl (lv_at hl 2 rfl) ?_
          refine lv_ishl hx hb dX5_alive_26 ?_
          refine lv_goto (tgt := 31) hx hb dX5_alive_27 (by decide) ?_
          refine lv_ior hx hb dX5_alive_31 ?_
          refine lv_istore_n (lv' := [(1, .int (x ||| (1 <<< ((nI i) &&& 31)))), (0, .ref (a 0)), (2, .int (nI i))]) hx hb dX5_alive_32 rfl hl (by decide) rfl (fun ls hl => ?_)
          refine lv_iinc (v := nI (i + 1)) (lv' := [(2, .int (nI (i + 1))), (1, .int (x ||| (1 <<< ((nI i) &&& 31)))), (0, .ref (a 0))]) hx hb dX5_alive_33 hl (k := 2) rfl (nI_1 i) (by decide) rfl (fun ls hl => ?_)
          refine lv_goto (tgt := 4) hx hb dX5_alive_36 (by decide) ?_
          exact ih_4 (i + 1) (x ||| (1 <<< ((nI i) &&& 31))) hlt (bO_y hac (by simp [c_2])) (by omega) ls (lv_sub hl [2, 1, 0] rfl)
  exact lp_4 ((n - 0) + 1) 0 0 (Nat.zero_le _) rfl (Nat.lt_succ_self _) ls (lv_sub hl [2, 1, 0] rfl)

theorem i_X5_saying_X5 : ∀ w ∈ wsX50, w ∈ wsX5_saying := by decide +kernel
theorem h_X5_saying : yX5_saying.cls = RX5 ∧ yX5_saying.cls ≠ "java/lang/invoke/MethodHandle" ∧ yX5_saying.cls ≠ "java/lang/invoke/VarHandle" ∧ (parseMethodDescriptor yX5_saying.desc).map (fun d => d.parameters.length) = some 2 := by decide +kernel
set_option maxHeartbeats 4000000 in
set_option maxRecDepth 100000 in
theorem c_X5_saying (lz : Launch) (G : gG) (a : Nat → Nat) (m : MdS) (n : Nat) (s what : Int32) (hn : m.st 1 = nI n) (hn8 : n ≤ 8) (hpl : ¬ m.pl = 0) : gRd lz yX5_saying wsX5_saying 4 G [.ref (a 0), .int s, .int what] (wMd a G.2.1 G.2.2.1 m) (ySayR m s what) := by
  refine g_rd (by decide) rfl (Nat.le_of_ble_eq_true rfl) ?_
  intro pz ez sz mz bz tz cz hx hb hr hml hown hts hlocks hP hK ls hl
  have hl : lv_has ls 3 [(0, .ref (a 0)), (1, .int s), (2, .int what)] := hl
  have f20 := hts (.fieldLink RX5 20 "WhisperRingModel" "st" "[I") (by decide +kernel)
  refine lv_aload_n hx hb dX5_saying_0 rfl (lv_at hl 0 rfl) ?_
  refine lv_iload_n hx hb dX5_saying_1 rfl (lv_at hl 1 rfl) ?_
  refine g_rdV (As := [.int s]) (rest := []) (nL := 3) hx hb hml hown hts (c_X5_isSaying lz G a m s) gX5_saying_X5_isSaying rfl h_X5_isSaying ⟨Nat.le_of_ble_eq_true rfl, Nat.le_of_ble_eq_true rfl⟩ hK hP (ci := 5) rfl rfl rfl rfl hl.1 rfl (Nat.le_of_ble_eq_true rfl) ⟨Nat.le_refl _, Nat.le_refl _⟩ dX5_saying_2 ?_
  refine lv_if_ne (tgt := 10) hx hb dX5_saying_5 (by decide) (fun c_1 => ?_) (fun c_1 => ?_)
  · skip
    have c_1 := bI_1 c_1
    obtain ⟨hj, hsj⟩ := wIn_nat hn hn8 c_1
    refine lv_iload_n hx hb dX5_saying_10 rfl (lv_at hl 2 rfl) ?_
    by_cases k_2 : what = 0
    · refine lv_tableIn (tgt := 60) hx hb dX5_saying_11 (by rw [k_2]; decide) (by rw [k_2]; decide) (by rw [k_2]; rfl) (by decide) ?_
      refine lv_aload_n hx hb dX5_saying_60 rfl (lv_at hl 0 rfl) ?_
      refine va_get (D := G.1) (ci := 5) (v := .ref (a 2)) (C := RX5) (T := TX5) (N := 21) hx hb hts i_X5_saying_X5 hown hK.1 hP 0 rfl rfl 5 (by decide) f20 (fun _ h9 => h9) rfl dX5_saying_61 ?_
      refine lv_iconst (v := 2) hx hb dX5_saying_64 (by decide) ?_
      refine lv_iload_n hx hb dX5_saying_65 rfl (lv_at hl 1 rfl) ?_
      refine g_top (y := nI s.toNatClampNeg) (hsj) ?_
      refine lv_iadd hx hb dX5_saying_66 ?_
      refine g_top (y := nI (2 + s.toNatClampNeg)) (nI_add 2 s.toNatClampNeg) ?_
      refine g_iald hx hb hK.1 hP 2 0 rfl rfl (i := (2 + s.toNatClampNeg)) (by omega) (by decide) dX5_saying_67 ?_
      exact g_ri hx hb hr hlocks dX5_saying_68 (by rw [ySayR] <;> (first | done | rw [if_pos c_1] | rw [if_neg c_1] | rw [if_neg (by rw [c_1]; decide)] | skip) <;> (first | done | rw [if_pos k_2] | rw [if_neg k_2] | rw [if_neg (by rw [k_2]; decide)] | skip) <;> (first | done | rfl | (simp only [c_1, k_2]; rfl) | (simp [c_1, k_2, bI]; done)))
    · skip
      by_cases k_3 : what = 1
      · refine lv_tableIn (tgt := 69) hx hb dX5_saying_11 (by rw [k_3]; decide) (by rw [k_3]; decide) (by rw [k_3]; rfl) (by decide) ?_
        refine lv_aload_n hx hb dX5_saying_69 rfl (lv_at hl 0 rfl) ?_
        refine va_get (D := G.1) (ci := 5) (v := .ref (a 2)) (C := RX5) (T := TX5) (N := 21) hx hb hts i_X5_saying_X5 hown hK.1 hP 0 rfl rfl 5 (by decide) f20 (fun _ h9 => h9) rfl dX5_saying_70 ?_
        refine lv_bipush (v := 10) hx hb dX5_saying_73 (by decide) ?_
        refine lv_iload_n hx hb dX5_saying_75 rfl (lv_at hl 1 rfl) ?_
        refine g_top (y := nI s.toNatClampNeg) (hsj) ?_
        refine lv_iadd hx hb dX5_saying_76 ?_
        refine g_top (y := nI (10 + s.toNatClampNeg)) (nI_add 10 s.toNatClampNeg) ?_
        refine g_iald hx hb hK.1 hP 2 0 rfl rfl (i := (10 + s.toNatClampNeg)) (by omega) (by decide) dX5_saying_77 ?_
        exact g_ri hx hb hr hlocks dX5_saying_78 (by rw [ySayR] <;> (first | done | rw [if_pos c_1] | rw [if_neg c_1] | rw [if_neg (by rw [c_1]; decide)] | skip) <;> (first | done | rw [if_pos k_2] | rw [if_neg k_2] | rw [if_neg (by rw [k_2]; decide)] | skip) <;> (first | done | rw [if_pos k_3] | rw [if_neg k_3] | rw [if_neg (by rw [k_3]; decide)] | skip) <;> (first | done | rfl | (simp only [c_1, k_2, k_3]; rfl) | (simp [c_1, k_2, k_3, bI]; done)))
      · skip
        by_cases k_4 : what = 2
        · refine lv_tableIn (tgt := 79) hx hb dX5_saying_11 (by rw [k_4]; decide) (by rw [k_4]; decide) (by rw [k_4]; rfl) (by decide) ?_
          refine lv_aload_n hx hb dX5_saying_79 rfl (lv_at hl 0 rfl) ?_
          refine va_get (D := G.1) (ci := 5) (v := .ref (a 2)) (C := RX5) (T := TX5) (N := 21) hx hb hts i_X5_saying_X5 hown hK.1 hP 0 rfl rfl 5 (by decide) f20 (fun _ h9 => h9) rfl dX5_saying_80 ?_
          refine lv_bipush (v := 18) hx hb dX5_saying_83 (by decide) ?_
          refine lv_iload_n hx hb dX5_saying_85 rfl (lv_at hl 1 rfl) ?_
          refine g_top (y := nI s.toNatClampNeg) (hsj) ?_
          refine lv_iadd hx hb dX5_saying_86 ?_
          refine g_top (y := nI (18 + s.toNatClampNeg)) (nI_add 18 s.toNatClampNeg) ?_
          refine g_iald hx hb hK.1 hP 2 0 rfl rfl (i := (18 + s.toNatClampNeg)) (by omega) (by decide) dX5_saying_87 ?_
          exact g_ri hx hb hr hlocks dX5_saying_88 (by rw [ySayR] <;> (first | done | rw [if_pos c_1] | rw [if_neg c_1] | rw [if_neg (by rw [c_1]; decide)] | skip) <;> (first | done | rw [if_pos k_2] | rw [if_neg k_2] | rw [if_neg (by rw [k_2]; decide)] | skip) <;> (first | done | rw [if_pos k_3] | rw [if_neg k_3] | rw [if_neg (by rw [k_3]; decide)] | skip) <;> (first | done | rw [if_pos k_4] | rw [if_neg k_4] | rw [if_neg (by rw [k_4]; decide)] | skip) <;> (first | done | rfl | (simp only [c_1, k_2, k_3, k_4]; rfl) | (simp [c_1, k_2, k_3, k_4, bI]; done)))
        · skip
          by_cases k_5 : what = 3
          · refine lv_tableIn (tgt := 89) hx hb dX5_saying_11 (by rw [k_5]; decide) (by rw [k_5]; decide) (by rw [k_5]; rfl) (by decide) ?_
            refine lv_aload_n hx hb dX5_saying_89 rfl (lv_at hl 0 rfl) ?_
            refine va_get (D := G.1) (ci := 5) (v := .ref (a 2)) (C := RX5) (T := TX5) (N := 21) hx hb hts i_X5_saying_X5 hown hK.1 hP 0 rfl rfl 5 (by decide) f20 (fun _ h9 => h9) rfl dX5_saying_90 ?_
            refine lv_bipush (v := 26) hx hb dX5_saying_93 (by decide) ?_
            refine lv_iload_n hx hb dX5_saying_95 rfl (lv_at hl 1 rfl) ?_
            refine g_top (y := nI s.toNatClampNeg) (hsj) ?_
            refine lv_iadd hx hb dX5_saying_96 ?_
            refine g_top (y := nI (26 + s.toNatClampNeg)) (nI_add 26 s.toNatClampNeg) ?_
            refine g_iald hx hb hK.1 hP 2 0 rfl rfl (i := (26 + s.toNatClampNeg)) (by omega) (by decide) dX5_saying_97 ?_
            exact g_ri hx hb hr hlocks dX5_saying_98 (by rw [ySayR] <;> (first | done | rw [if_pos c_1] | rw [if_neg c_1] | rw [if_neg (by rw [c_1]; decide)] | skip) <;> (first | done | rw [if_pos k_2] | rw [if_neg k_2] | rw [if_neg (by rw [k_2]; decide)] | skip) <;> (first | done | rw [if_pos k_3] | rw [if_neg k_3] | rw [if_neg (by rw [k_3]; decide)] | skip) <;> (first | done | rw [if_pos k_4] | rw [if_neg k_4] | rw [if_neg (by rw [k_4]; decide)] | skip) <;> (first | done | rw [if_pos k_5] | rw [if_neg k_5] | rw [if_neg (by rw [k_5]; decide)] | skip) <;> (first | done | rfl | (simp only [c_1, k_2, k_3, k_4, k_5]; rfl) | (simp [c_1, k_2, k_3, k_4, k_5, bI]; done)))
          · skip
            by_cases k_6 : what = 4
            · refine lv_tableIn (tgt := 99) hx hb dX5_saying_11 (by rw [k_6]; decide) (by rw [k_6]; decide) (by rw [k_6]; rfl) (by decide) ?_
              refine lv_aload_n hx hb dX5_saying_99 rfl (lv_at hl 0 rfl) ?_
              refine lv_iload_n hx hb dX5_saying_100 rfl (lv_at hl 1 rfl) ?_
              refine g_top (y := nI s.toNatClampNeg) (hsj) ?_
              refine lv_iconst (v := 0) hx hb dX5_saying_101 (by decide) ?_
              refine g_rdV (As := [.int (nI s.toNatClampNeg), .int 0]) (rest := []) (nL := 3) hx hb hml hown hts (c_X5_placeOf lz G a m s.toNatClampNeg 0 (by omega) hpl) gX5_saying_X5_placeOf rfl h_X5_placeOf ⟨Nat.le_of_ble_eq_true rfl, Nat.le_of_ble_eq_true rfl⟩ hK hP (ci := 5) rfl rfl rfl rfl hl.1 rfl (Nat.le_of_ble_eq_true rfl) ⟨Nat.le_refl _, Nat.le_refl _⟩ dX5_saying_102 ?_
              exact g_ri hx hb hr hlocks dX5_saying_105 (by rw [ySayR] <;> (first | done | rw [if_pos c_1] | rw [if_neg c_1] | rw [if_neg (by rw [c_1]; decide)] | skip) <;> (first | done | rw [if_pos k_2] | rw [if_neg k_2] | rw [if_neg (by rw [k_2]; decide)] | skip) <;> (first | done | rw [if_pos k_3] | rw [if_neg k_3] | rw [if_neg (by rw [k_3]; decide)] | skip) <;> (first | done | rw [if_pos k_4] | rw [if_neg k_4] | rw [if_neg (by rw [k_4]; decide)] | skip) <;> (first | done | rw [if_pos k_5] | rw [if_neg k_5] | rw [if_neg (by rw [k_5]; decide)] | skip) <;> (first | done | rw [if_pos k_6] | rw [if_neg k_6] | rw [if_neg (by rw [k_6]; decide)] | skip) <;> (first | done | rfl | (simp only [c_1, k_2, k_3, k_4, k_5, k_6]; rfl) | (simp [c_1, k_2, k_3, k_4, k_5, k_6, bI]; done)))
            · skip
              by_cases k_7 : what = 5
              · refine lv_tableIn (tgt := 106) hx hb dX5_saying_11 (by rw [k_7]; decide) (by rw [k_7]; decide) (by rw [k_7]; rfl) (by decide) ?_
                refine lv_aload_n hx hb dX5_saying_106 rfl (lv_at hl 0 rfl) ?_
                refine lv_iload_n hx hb dX5_saying_107 rfl (lv_at hl 1 rfl) ?_
                refine g_top (y := nI s.toNatClampNeg) (hsj) ?_
                refine lv_iconst (v := 0) hx hb dX5_saying_108 (by decide) ?_
                refine g_rdV (As := [.int (nI s.toNatClampNeg), .int 0]) (rest := []) (nL := 3) hx hb hml hown hts (c_X5_lapsOf lz G a m s.toNatClampNeg 0 (by omega) hpl) gX5_saying_X5_lapsOf rfl h_X5_lapsOf ⟨Nat.le_of_ble_eq_true rfl, Nat.le_of_ble_eq_true rfl⟩ hK hP (ci := 5) rfl rfl rfl rfl hl.1 rfl (Nat.le_of_ble_eq_true rfl) ⟨Nat.le_refl _, Nat.le_refl _⟩ dX5_saying_109 ?_
                exact g_ri hx hb hr hlocks dX5_saying_112 (by rw [ySayR] <;> (first | done | rw [if_pos c_1] | rw [if_neg c_1] | rw [if_neg (by rw [c_1]; decide)] | skip) <;> (first | done | rw [if_pos k_2] | rw [if_neg k_2] | rw [if_neg (by rw [k_2]; decide)] | skip) <;> (first | done | rw [if_pos k_3] | rw [if_neg k_3] | rw [if_neg (by rw [k_3]; decide)] | skip) <;> (first | done | rw [if_pos k_4] | rw [if_neg k_4] | rw [if_neg (by rw [k_4]; decide)] | skip) <;> (first | done | rw [if_pos k_5] | rw [if_neg k_5] | rw [if_neg (by rw [k_5]; decide)] | skip) <;> (first | done | rw [if_pos k_6] | rw [if_neg k_6] | rw [if_neg (by rw [k_6]; decide)] | skip) <;> (first | done | rw [if_pos k_7] | rw [if_neg k_7] | rw [if_neg (by rw [k_7]; decide)] | skip) <;> (first | done | rfl | (simp only [c_1, k_2, k_3, k_4, k_5, k_6, k_7]; rfl) | (simp [c_1, k_2, k_3, k_4, k_5, k_6, k_7, bI]; done)))
              · skip
                by_cases k_8 : what = 6
                · refine lv_tableIn (tgt := 113) hx hb dX5_saying_11 (by rw [k_8]; decide) (by rw [k_8]; decide) (by rw [k_8]; rfl) (by decide) ?_
                  refine lv_aload_n hx hb dX5_saying_113 rfl (lv_at hl 0 rfl) ?_
                  refine lv_iload_n hx hb dX5_saying_114 rfl (lv_at hl 1 rfl) ?_
                  refine g_top (y := nI s.toNatClampNeg) (hsj) ?_
                  refine lv_iconst (v := 0) hx hb dX5_saying_115 (by decide) ?_
                  refine g_rdV (As := [.int (nI s.toNatClampNeg), .int 0]) (rest := []) (nL := 3) hx hb hml hown hts (c_X5_strengthOf lz G a m s.toNatClampNeg 0 (by omega) hpl) gX5_saying_X5_strengthOf rfl h_X5_strengthOf ⟨Nat.le_of_ble_eq_true rfl, Nat.le_of_ble_eq_true rfl⟩ hK hP (ci := 5) rfl rfl rfl rfl hl.1 rfl (Nat.le_of_ble_eq_true rfl) ⟨Nat.le_refl _, Nat.le_refl _⟩ dX5_saying_116 ?_
                  exact g_ri hx hb hr hlocks dX5_saying_119 (by rw [ySayR] <;> (first | done | rw [if_pos c_1] | rw [if_neg c_1] | rw [if_neg (by rw [c_1]; decide)] | skip) <;> (first | done | rw [if_pos k_2] | rw [if_neg k_2] | rw [if_neg (by rw [k_2]; decide)] | skip) <;> (first | done | rw [if_pos k_3] | rw [if_neg k_3] | rw [if_neg (by rw [k_3]; decide)] | skip) <;> (first | done | rw [if_pos k_4] | rw [if_neg k_4] | rw [if_neg (by rw [k_4]; decide)] | skip) <;> (first | done | rw [if_pos k_5] | rw [if_neg k_5] | rw [if_neg (by rw [k_5]; decide)] | skip) <;> (first | done | rw [if_pos k_6] | rw [if_neg k_6] | rw [if_neg (by rw [k_6]; decide)] | skip) <;> (first | done | rw [if_pos k_7] | rw [if_neg k_7] | rw [if_neg (by rw [k_7]; decide)] | skip) <;> (first | done | rw [if_pos k_8] | rw [if_neg k_8] | rw [if_neg (by rw [k_8]; decide)] | skip) <;> (first | done | rfl | (simp only [c_1, k_2, k_3, k_4, k_5, k_6, k_7, k_8]; rfl) | (simp [c_1, k_2, k_3, k_4, k_5, k_6, k_7, k_8, bI]; done)))
                · skip
                  by_cases k_9 : what = 7
                  · refine lv_tableIn (tgt := 120) hx hb dX5_saying_11 (by rw [k_9]; decide) (by rw [k_9]; decide) (by rw [k_9]; rfl) (by decide) ?_
                    refine lv_aload_n hx hb dX5_saying_120 rfl (lv_at hl 0 rfl) ?_
                    refine va_get (D := G.1) (ci := 5) (v := .ref (a 2)) (C := RX5) (T := TX5) (N := 21) hx hb hts i_X5_saying_X5 hown hK.1 hP 0 rfl rfl 5 (by decide) f20 (fun _ h9 => h9) rfl dX5_saying_121 ?_
                    refine lv_bipush (v := 42) hx hb dX5_saying_124 (by decide) ?_
                    refine lv_iload_n hx hb dX5_saying_126 rfl (lv_at hl 1 rfl) ?_
                    refine g_top (y := nI s.toNatClampNeg) (hsj) ?_
                    refine lv_iadd hx hb dX5_saying_127 ?_
                    refine g_top (y := nI (42 + s.toNatClampNeg)) (nI_add 42 s.toNatClampNeg) ?_
                    refine g_iald hx hb hK.1 hP 2 0 rfl rfl (i := (42 + s.toNatClampNeg)) (by omega) (by decide) dX5_saying_128 ?_
                    exact g_ri hx hb hr hlocks dX5_saying_129 (by rw [ySayR] <;> (first | done | rw [if_pos c_1] | rw [if_neg c_1] | rw [if_neg (by rw [c_1]; decide)] | skip) <;> (first | done | rw [if_pos k_2] | rw [if_neg k_2] | rw [if_neg (by rw [k_2]; decide)] | skip) <;> (first | done | rw [if_pos k_3] | rw [if_neg k_3] | rw [if_neg (by rw [k_3]; decide)] | skip) <;> (first | done | rw [if_pos k_4] | rw [if_neg k_4] | rw [if_neg (by rw [k_4]; decide)] | skip) <;> (first | done | rw [if_pos k_5] | rw [if_neg k_5] | rw [if_neg (by rw [k_5]; decide)] | skip) <;> (first | done | rw [if_pos k_6] | rw [if_neg k_6] | rw [if_neg (by rw [k_6]; decide)] | skip) <;> (first | done | rw [if_pos k_7] | rw [if_neg k_7] | rw [if_neg (by rw [k_7]; decide)] | skip) <;> (first | done | rw [if_pos k_8] | rw [if_neg k_8] | rw [if_neg (by rw [k_8]; decide)] | skip) <;> (first | done | rw [if_pos k_9] | rw [if_neg k_9] | rw [if_neg (by rw [k_9]; decide)] | skip) <;> (first | done | rfl | (simp only [c_1, k_2, k_3, k_4, k_5, k_6, k_7, k_8, k_9]; rfl) | (simp [c_1, k_2, k_3, k_4, k_5, k_6, k_7, k_8, k_9, bI]; done)))
                  · skip
                    by_cases k_10 : what = 8
                    · refine lv_tableIn (tgt := 130) hx hb dX5_saying_11 (by rw [k_10]; decide) (by rw [k_10]; decide) (by rw [k_10]; rfl) (by decide) ?_
                      refine lv_aload_n hx hb dX5_saying_130 rfl (lv_at hl 0 rfl) ?_
                      refine lv_iload_n hx hb dX5_saying_131 rfl (lv_at hl 1 rfl) ?_
                      refine g_top (y := nI s.toNatClampNeg) (hsj) ?_
                      refine g_rdV (As := [.int (nI s.toNatClampNeg)]) (rest := []) (nL := 3) hx hb hml hown hts (c_X5_lastOf lz G a m s.toNatClampNeg (by omega) hpl) gX5_saying_X5_lastOf rfl h_X5_lastOf ⟨Nat.le_of_ble_eq_true rfl, Nat.le_of_ble_eq_true rfl⟩ hK hP (ci := 5) rfl rfl rfl rfl hl.1 rfl (Nat.le_of_ble_eq_true rfl) ⟨Nat.le_refl _, Nat.le_refl _⟩ dX5_saying_132 ?_
                      exact g_ri hx hb hr hlocks dX5_saying_135 (by rw [ySayR] <;> (first | done | rw [if_pos c_1] | rw [if_neg c_1] | rw [if_neg (by rw [c_1]; decide)] | skip) <;> (first | done | rw [if_pos k_2] | rw [if_neg k_2] | rw [if_neg (by rw [k_2]; decide)] | skip) <;> (first | done | rw [if_pos k_3] | rw [if_neg k_3] | rw [if_neg (by rw [k_3]; decide)] | skip) <;> (first | done | rw [if_pos k_4] | rw [if_neg k_4] | rw [if_neg (by rw [k_4]; decide)] | skip) <;> (first | done | rw [if_pos k_5] | rw [if_neg k_5] | rw [if_neg (by rw [k_5]; decide)] | skip) <;> (first | done | rw [if_pos k_6] | rw [if_neg k_6] | rw [if_neg (by rw [k_6]; decide)] | skip) <;> (first | done | rw [if_pos k_7] | rw [if_neg k_7] | rw [if_neg (by rw [k_7]; decide)] | skip) <;> (first | done | rw [if_pos k_8] | rw [if_neg k_8] | rw [if_neg (by rw [k_8]; decide)] | skip) <;> (first | done | rw [if_pos k_9] | rw [if_neg k_9] | rw [if_neg (by rw [k_9]; decide)] | skip) <;> (first | done | rw [if_pos k_10] | rw [if_neg k_10] | rw [if_neg (by rw [k_10]; decide)] | skip) <;> (first | done | rfl | (simp only [c_1, k_2, k_3, k_4, k_5, k_6, k_7, k_8, k_9, k_10]; rfl) | (simp [c_1, k_2, k_3, k_4, k_5, k_6, k_7, k_8, k_9, k_10, bI]; done)))
                    · skip
                      refine lv_tableOut (tgt := 136) hx hb dX5_saying_11 (by have n0 := lv_neT k_2 (a := 0) (by decide); have n1 := lv_neT k_3 (a := 1) (by decide); have n2 := lv_neT k_4 (a := 2) (by decide); have n3 := lv_neT k_5 (a := 3) (by decide); have n4 := lv_neT k_6 (a := 4) (by decide); have n5 := lv_neT k_7 (a := 5) (by decide); have n6 := lv_neT k_8 (a := 6) (by decide); have n7 := lv_neT k_9 (a := 7) (by decide); have n8 := lv_neT k_10 (a := 8) (by decide); omega) (by decide) ?_
                      refine lv_iconst (v := (-1)) hx hb dX5_saying_136 (by decide) ?_
                      exact g_ri hx hb hr hlocks dX5_saying_137 (by rw [ySayR] <;> (first | done | rw [if_pos c_1] | rw [if_neg c_1] | rw [if_neg (by rw [c_1]; decide)] | skip) <;> (first | done | rw [if_pos k_2] | rw [if_neg k_2] | rw [if_neg (by rw [k_2]; decide)] | skip) <;> (first | done | rw [if_pos k_3] | rw [if_neg k_3] | rw [if_neg (by rw [k_3]; decide)] | skip) <;> (first | done | rw [if_pos k_4] | rw [if_neg k_4] | rw [if_neg (by rw [k_4]; decide)] | skip) <;> (first | done | rw [if_pos k_5] | rw [if_neg k_5] | rw [if_neg (by rw [k_5]; decide)] | skip) <;> (first | done | rw [if_pos k_6] | rw [if_neg k_6] | rw [if_neg (by rw [k_6]; decide)] | skip) <;> (first | done | rw [if_pos k_7] | rw [if_neg k_7] | rw [if_neg (by rw [k_7]; decide)] | skip) <;> (first | done | rw [if_pos k_8] | rw [if_neg k_8] | rw [if_neg (by rw [k_8]; decide)] | skip) <;> (first | done | rw [if_pos k_9] | rw [if_neg k_9] | rw [if_neg (by rw [k_9]; decide)] | skip) <;> (first | done | rw [if_pos k_10] | rw [if_neg k_10] | rw [if_neg (by rw [k_10]; decide)] | skip) <;> (first | done | rfl | (simp only [c_1, k_2, k_3, k_4, k_5, k_6, k_7, k_8, k_9, k_10]; rfl) | (simp [c_1, k_2, k_3, k_4, k_5, k_6, k_7, k_8, k_9, k_10, bI]; done)))
  · skip
    have c_1 := bI_0 c_1
    refine lv_iconst (v := (-1)) hx hb dX5_saying_8 (by decide) ?_
    exact g_ri hx hb hr hlocks dX5_saying_9 (by rw [ySayR] <;> (first | done | rw [if_pos c_1] | rw [if_neg c_1] | rw [if_neg (by rw [c_1]; decide)] | skip) <;> (first | done | rfl | (simp only [c_1]; rfl) | (simp [c_1, bI]; done)))

theorem i_X5_place_X5 : ∀ w ∈ wsX50, w ∈ wsX5_place := by decide +kernel
theorem h_X5_place : yX5_place.cls = RX5 ∧ yX5_place.cls ≠ "java/lang/invoke/MethodHandle" ∧ yX5_place.cls ≠ "java/lang/invoke/VarHandle" ∧ (parseMethodDescriptor yX5_place.desc).map (fun d => d.parameters.length) = some 2 := by decide +kernel
set_option maxHeartbeats 4000000 in
set_option maxRecDepth 100000 in
theorem c_X5_place (lz : Launch) (G : gG) (a : Nat → Nat) (m : MdS) (n : Nat) (p what : Int32) (hn : m.st 1 = nI n) (hn8 : n ≤ 8) (hpl : ¬ m.pl = 0) : gRd lz yX5_place wsX5_place 5 G [.ref (a 0), .int p, .int what] (wMd a G.2.1 G.2.2.1 m) (yPlR m n p what) := by
  refine g_rd (by decide) rfl (Nat.le_of_ble_eq_true rfl) ?_
  intro pz ez sz mz bz tz cz hx hb hr hml hown hts hlocks hP hK ls hl
  have hl : lv_has ls 4 [(0, .ref (a 0)), (1, .int p), (2, .int what)] := hl
  have f88 := hts (.fieldLink RX5 88 "WhisperRingModel" "niches" "I") (by decide +kernel)
  refine lv_aload_n hx hb dX5_place_0 rfl (lv_at hl 0 rfl) ?_
  refine lv_iload_n hx hb dX5_place_1 rfl (lv_at hl 1 rfl) ?_
  refine g_rdV (As := [.int p]) (rest := []) (nL := 4) hx hb hml hown hts (c_X5_isPlace lz G a m p) gX5_place_X5_isPlace rfl h_X5_isPlace ⟨Nat.le_of_ble_eq_true rfl, Nat.le_of_ble_eq_true rfl⟩ hK hP (ci := 5) rfl rfl rfl rfl hl.1 rfl (Nat.le_of_ble_eq_true rfl) ⟨Nat.le_refl _, Nat.le_refl _⟩ dX5_place_2 ?_
  refine lv_if_ne (tgt := 10) hx hb dX5_place_5 (by decide) (fun c_1 => ?_) (fun c_1 => ?_)
  · skip
    have c_1 := bI_1 c_1
    refine lv_aload_n hx hb dX5_place_10 rfl (lv_at hl 0 rfl) ?_
    refine lv_iload_n hx hb dX5_place_11 rfl (lv_at hl 1 rfl) ?_
    refine lv_iconst (v := 0) hx hb dX5_place_12 (by decide) ?_
    refine g_rdV (As := [.int p, .int 0]) (rest := []) (nL := 4) hx hb hml hown hts (c_X5_soundsOf lz G a m n p 0 hn hn8 hpl) gX5_place_X5_soundsOf rfl h_X5_soundsOf ⟨Nat.le_of_ble_eq_true rfl, Nat.le_of_ble_eq_true rfl⟩ hK hP (ci := 5) rfl rfl rfl rfl hl.1 rfl (Nat.le_of_ble_eq_true rfl) ⟨Nat.le_refl _, Nat.le_refl _⟩ dX5_place_13 ?_
    refine lv_istore_n (lv' := [(3, .int (dSn m n p 0)), (0, .ref (a 0)), (1, .int p), (2, .int what)]) hx hb dX5_place_16 rfl hl (by decide) rfl (fun ls hl => ?_)
    refine lv_iload_n hx hb dX5_place_17 rfl (lv_at hl 3 rfl) ?_
    by_cases k_2 : what = 0
    · refine lv_tableIn (tgt := 56) hx hb dX5_place_18 (by rw [k_2]; decide) (by rw [k_2]; decide) (by rw [k_2]; rfl) (by decide) ?_
      refine lv_aload_n hx hb dX5_place_56 rfl (lv_at hl 1 rfl) ?_
      refine va_get (D := G.1) (ci := 5) (v := .int m.nich) (C := RX5) (T := TX5) (N := 21) hx hb hts i_X5_place_X5 hown hK.1 hP 0 rfl rfl 4 (by decide) f88 (fun _ h9 => h9) rfl dX5_place_57 ?_
      refine lv_iload_n hx hb dX5_place_60 rfl (lv_at hl 2 rfl) ?_
      refine lv_ishr hx hb dX5_place_61 ?_
      refine lv_iconst (v := 1) hx hb dX5_place_62 (by decide) ?_
      refine lv_iand hx hb dX5_place_63 ?_
      exact g_ri hx hb hr hlocks dX5_place_64 (by rw [yPlR] <;> (first | done | rw [if_pos c_1] | rw [if_neg c_1] | rw [if_neg (by rw [c_1]; decide)] | skip) <;> (first | done | rw [if_pos k_2] | rw [if_neg k_2] | rw [if_neg (by rw [k_2]; decide)] | skip) <;> (first | done | rfl | (simp only [c_1, k_2]; rfl) | (simp [c_1, k_2, bI]; done)))
    · skip
      by_cases k_3 : what = 1
      · refine lv_tableIn (tgt := 65) hx hb dX5_place_18 (by rw [k_3]; decide) (by rw [k_3]; decide) (by rw [k_3]; rfl) (by decide) ?_
        refine lv_iload_n hx hb dX5_place_65 rfl (lv_at hl 0 rfl) ?_
        exact g_ri hx hb hr hlocks dX5_place_66 (by rw [yPlR] <;> (first | done | rw [if_pos c_1] | rw [if_neg c_1] | rw [if_neg (by rw [c_1]; decide)] | skip) <;> (first | done | rw [if_pos k_2] | rw [if_neg k_2] | rw [if_neg (by rw [k_2]; decide)] | skip) <;> (first | done | rw [if_pos k_3] | rw [if_neg k_3] | rw [if_neg (by rw [k_3]; decide)] | skip) <;> (first | done | rfl | (simp only [c_1, k_2, k_3]; rfl) | (simp [c_1, k_2, k_3, bI]; done)))
      · skip
        by_cases k_4 : what = 2
        · refine lv_tableIn (tgt := 67) hx hb dX5_place_18 (by rw [k_4]; decide) (by rw [k_4]; decide) (by rw [k_4]; rfl) (by decide) ?_
          refine lv_aload_n hx hb dX5_place_67 rfl (lv_at hl 1 rfl) ?_
          refine lv_iload_n hx hb dX5_place_68 rfl (lv_at hl 0 rfl) ?_
          refine lv_iconst (v := 0) hx hb dX5_place_69 (by decide) ?_
          refine g_rdV (As := [.int (dSn m n p 0), .int 0]) (rest := []) (nL := 4) hx hb hml hown hts (c_X5_clearOf lz G a m n (dSn m n p 0) 0 hn hn8 hpl) gX5_place_X5_clearOf rfl h_X5_clearOf ⟨Nat.le_of_ble_eq_true rfl, Nat.le_of_ble_eq_true rfl⟩ hK hP (ci := 5) rfl rfl rfl rfl hl.1 rfl (Nat.le_of_ble_eq_true rfl) ⟨Nat.le_refl _, Nat.le_refl _⟩ dX5_place_70 ?_
          exact g_ri hx hb hr hlocks dX5_place_73 (by rw [yPlR] <;> (first | done | rw [if_pos c_1] | rw [if_neg c_1] | rw [if_neg (by rw [c_1]; decide)] | skip) <;> (first | done | rw [if_pos k_2] | rw [if_neg k_2] | rw [if_neg (by rw [k_2]; decide)] | skip) <;> (first | done | rw [if_pos k_3] | rw [if_neg k_3] | rw [if_neg (by rw [k_3]; decide)] | skip) <;> (first | done | rw [if_pos k_4] | rw [if_neg k_4] | rw [if_neg (by rw [k_4]; decide)] | skip) <;> (first | done | rfl | (simp only [c_1, k_2, k_3, k_4]; rfl) | (simp [c_1, k_2, k_3, k_4, bI]; done)))
        · skip
          by_cases k_5 : what = 3
          · refine lv_tableIn (tgt := 74) hx hb dX5_place_18 (by rw [k_5]; decide) (by rw [k_5]; decide) (by rw [k_5]; rfl) (by decide) ?_
            refine lv_iload_n hx hb dX5_place_74 rfl (lv_at hl 0 rfl) ?_
            refine lv_if_eq (tgt := 93) hx hb dX5_place_75 (by decide) (fun c_6 => ?_) (fun c_6 => ?_)
            · skip
              refine lv_iconst (v := 0) hx hb dX5_place_93 (by decide) ?_
              exact g_ri hx hb hr hlocks dX5_place_94 (by rw [yPlR] <;> (first | done | rw [if_pos c_1] | rw [if_neg c_1] | rw [if_neg (by rw [c_1]; decide)] | skip) <;> (first | done | rw [if_pos k_2] | rw [if_neg k_2] | rw [if_neg (by rw [k_2]; decide)] | skip) <;> (first | done | rw [if_pos k_3] | rw [if_neg k_3] | rw [if_neg (by rw [k_3]; decide)] | skip) <;> (first | done | rw [if_pos k_4] | rw [if_neg k_4] | rw [if_neg (by rw [k_4]; decide)] | skip) <;> (first | done | rw [if_pos k_5] | rw [if_neg k_5] | rw [if_neg (by rw [k_5]; decide)] | skip) <;> (first | done | rw [if_pos c_6] | rw [if_neg c_6] | rw [if_neg (by rw [c_6]; decide)] | skip) <;> (first | done | rfl | (simp only [c_1, k_2, k_3, k_4, k_5, c_6]; rfl) | (simp [c_1, k_2, k_3, k_4, k_5, c_6, bI]; done)))
            · skip
              refine lv_aload_n hx hb dX5_place_78 rfl (lv_at hl 1 rfl) ?_
              refine lv_iload_n hx hb dX5_place_79 rfl (lv_at hl 0 rfl) ?_
              refine lv_iconst (v := 0) hx hb dX5_place_80 (by decide) ?_
              refine g_rdV (As := [.int (dSn m n p 0), .int 0]) (rest := []) (nL := 4) hx hb hml hown hts (c_X5_clearOf lz G a m n (dSn m n p 0) 0 hn hn8 hpl) gX5_place_X5_clearOf rfl h_X5_clearOf ⟨Nat.le_of_ble_eq_true rfl, Nat.le_of_ble_eq_true rfl⟩ hK hP (ci := 5) rfl rfl rfl rfl hl.1 rfl (Nat.le_of_ble_eq_true rfl) ⟨Nat.le_refl _, Nat.le_refl _⟩ dX5_place_81 ?_
              refine lv_bipush (v := (-9)) hx hb dX5_place_84 (by decide) ?_
              refine lv_icmp_ne (tgt := 93) hx hb dX5_place_86 (by decide) (fun c_7 => ?_) (fun c_7 => ?_)
              · skip
                refine lv_iconst (v := 0) hx hb dX5_place_93 (by decide) ?_
                exact g_ri hx hb hr hlocks dX5_place_94 (by rw [yPlR] <;> (first | done | rw [if_pos c_1] | rw [if_neg c_1] | rw [if_neg (by rw [c_1]; decide)] | skip) <;> (first | done | rw [if_pos k_2] | rw [if_neg k_2] | rw [if_neg (by rw [k_2]; decide)] | skip) <;> (first | done | rw [if_pos k_3] | rw [if_neg k_3] | rw [if_neg (by rw [k_3]; decide)] | skip) <;> (first | done | rw [if_pos k_4] | rw [if_neg k_4] | rw [if_neg (by rw [k_4]; decide)] | skip) <;> (first | done | rw [if_pos k_5] | rw [if_neg k_5] | rw [if_neg (by rw [k_5]; decide)] | skip) <;> (first | done | rw [if_pos c_6] | rw [if_neg c_6] | rw [if_neg (by rw [c_6]; decide)] | skip) <;> (first | done | rw [if_pos c_7] | rw [if_neg c_7] | rw [if_neg (by rw [c_7]; decide)] | skip) <;> (first | done | rfl | (simp only [c_1, k_2, k_3, k_4, k_5, c_6, c_7]; rfl) | (simp [c_1, k_2, k_3, k_4, k_5, c_6, c_7, bI]; done)))
              · skip
                refine lv_iconst (v := 1) hx hb dX5_place_89 (by decide) ?_
                refine lv_goto (tgt := 94) hx hb dX5_place_90 (by decide) ?_
                exact g_ri hx hb hr hlocks dX5_place_94 (by rw [yPlR] <;> (first | done | rw [if_pos c_1] | rw [if_neg c_1] | rw [if_neg (by rw [c_1]; decide)] | skip) <;> (first | done | rw [if_pos k_2] | rw [if_neg k_2] | rw [if_neg (by rw [k_2]; decide)] | skip) <;> (first | done | rw [if_pos k_3] | rw [if_neg k_3] | rw [if_neg (by rw [k_3]; decide)] | skip) <;> (first | done | rw [if_pos k_4] | rw [if_neg k_4] | rw [if_neg (by rw [k_4]; decide)] | skip) <;> (first | done | rw [if_pos k_5] | rw [if_neg k_5] | rw [if_neg (by rw [k_5]; decide)] | skip) <;> (first | done | rw [if_pos c_6] | rw [if_neg c_6] | rw [if_neg (by rw [c_6]; decide)] | skip) <;> (first | done | rw [if_pos c_7] | rw [if_neg c_7] | rw [if_neg (by rw [c_7]; decide)] | skip) <;> (first | done | rfl | (simp only [c_1, k_2, k_3, k_4, k_5, c_6, c_7]; rfl) | (simp [c_1, k_2, k_3, k_4, k_5, c_6, c_7, bI]; done)))
          · skip
            by_cases k_8 : what = 4
            · refine lv_tableIn (tgt := 95) hx hb dX5_place_18 (by rw [k_8]; decide) (by rw [k_8]; decide) (by rw [k_8]; rfl) (by decide) ?_
              refine lv_aload_n hx hb dX5_place_95 rfl (lv_at hl 1 rfl) ?_
              refine va_get (D := G.1) (ci := 5) (v := .int m.nich) (C := RX5) (T := TX5) (N := 21) hx hb hts i_X5_place_X5 hown hK.1 hP 0 rfl rfl 4 (by decide) f88 (fun _ h9 => h9) rfl dX5_place_96 ?_
              refine lv_iload_n hx hb dX5_place_99 rfl (lv_at hl 2 rfl) ?_
              refine g_rdS (As := [.int m.nich, .int p]) (rest := []) (nL := 4) hx hb hml hown hts (c_X5_has lz G m.nich p) gX5_place_X5_has rfl h_X5_has ⟨Nat.le_of_ble_eq_true rfl, Nat.le_of_ble_eq_true rfl⟩ hK gP_nil rfl hl.1 rfl (Nat.le_of_ble_eq_true rfl) ⟨Nat.le_refl _, Nat.le_refl _⟩ dX5_place_100 ?_
              refine lv_if_eq (tgt := 110) hx hb dX5_place_103 (by decide) (fun c_9 => ?_) (fun c_9 => ?_)
              · skip
                have c_9 := bI_0 c_9
                refine lv_iconst (v := 1) hx hb dX5_place_110 (by decide) ?_
                refine lv_aload_n hx hb dX5_place_111 rfl (lv_at hl 1 rfl) ?_
                refine lv_iload_n hx hb dX5_place_112 rfl (lv_at hl 0 rfl) ?_
                refine lv_iconst (v := 0) hx hb dX5_place_113 (by decide) ?_
                refine g_rdV (As := [.int (dSn m n p 0), .int 0]) (rest := [.int 1]) (nL := 4) hx hb hml hown hts (c_X5_loudOf lz G a m n (dSn m n p 0) 0 hn hn8 hpl) gX5_place_X5_loudOf rfl h_X5_loudOf ⟨Nat.le_of_ble_eq_true rfl, Nat.le_of_ble_eq_true rfl⟩ hK hP (ci := 5) rfl rfl rfl rfl hl.1 rfl (Nat.le_of_ble_eq_true rfl) ⟨Nat.le_refl _, Nat.le_refl _⟩ dX5_place_114 ?_
                refine lv_imul hx hb dX5_place_117 ?_
                exact g_ri hx hb hr hlocks dX5_place_118 (by rw [yPlR] <;> (first | done | rw [if_pos c_1] | rw [if_neg c_1] | rw [if_neg (by rw [c_1]; decide)] | skip) <;> (first | done | rw [if_pos k_2] | rw [if_neg k_2] | rw [if_neg (by rw [k_2]; decide)] | skip) <;> (first | done | rw [if_pos k_3] | rw [if_neg k_3] | rw [if_neg (by rw [k_3]; decide)] | skip) <;> (first | done | rw [if_pos k_4] | rw [if_neg k_4] | rw [if_neg (by rw [k_4]; decide)] | skip) <;> (first | done | rw [if_pos k_5] | rw [if_neg k_5] | rw [if_neg (by rw [k_5]; decide)] | skip) <;> (first | done | rw [if_pos k_8] | rw [if_neg k_8] | rw [if_neg (by rw [k_8]; decide)] | skip) <;> (first | done | rw [if_pos c_9] | rw [if_neg c_9] | rw [if_neg (by rw [c_9]; decide)] | skip) <;> (first | done | rfl | (simp only [c_1, k_2, k_3, k_4, k_5, k_8, c_9]; rfl) | (simp [c_1, k_2, k_3, k_4, k_5, k_8, c_9, bI]; done)))
              · skip
                have c_9 := bI_1 c_9
                refine lv_iconst (v := 2) hx hb dX5_place_106 (by decide) ?_
                refine lv_goto (tgt := 111) hx hb dX5_place_107 (by decide) ?_
                refine lv_aload_n hx hb dX5_place_111 rfl (lv_at hl 1 rfl) ?_
                refine lv_iload_n hx hb dX5_place_112 rfl (lv_at hl 0 rfl) ?_
                refine lv_iconst (v := 0) hx hb dX5_place_113 (by decide) ?_
                refine g_rdV (As := [.int (dSn m n p 0), .int 0]) (rest := [.int 2]) (nL := 4) hx hb hml hown hts (c_X5_loudOf lz G a m n (dSn m n p 0) 0 hn hn8 hpl) gX5_place_X5_loudOf rfl h_X5_loudOf ⟨Nat.le_of_ble_eq_true rfl, Nat.le_of_ble_eq_true rfl⟩ hK hP (ci := 5) rfl rfl rfl rfl hl.1 rfl (Nat.le_of_ble_eq_true rfl) ⟨Nat.le_refl _, Nat.le_refl _⟩ dX5_place_114 ?_
                refine lv_imul hx hb dX5_place_117 ?_
                exact g_ri hx hb hr hlocks dX5_place_118 (by rw [yPlR] <;> (first | done | rw [if_pos c_1] | rw [if_neg c_1] | rw [if_neg (by rw [c_1]; decide)] | skip) <;> (first | done | rw [if_pos k_2] | rw [if_neg k_2] | rw [if_neg (by rw [k_2]; decide)] | skip) <;> (first | done | rw [if_pos k_3] | rw [if_neg k_3] | rw [if_neg (by rw [k_3]; decide)] | skip) <;> (first | done | rw [if_pos k_4] | rw [if_neg k_4] | rw [if_neg (by rw [k_4]; decide)] | skip) <;> (first | done | rw [if_pos k_5] | rw [if_neg k_5] | rw [if_neg (by rw [k_5]; decide)] | skip) <;> (first | done | rw [if_pos k_8] | rw [if_neg k_8] | rw [if_neg (by rw [k_8]; decide)] | skip) <;> (first | done | rw [if_pos c_9] | rw [if_neg c_9] | rw [if_neg (by rw [c_9]; decide)] | skip) <;> (first | done | rfl | (simp only [c_1, k_2, k_3, k_4, k_5, k_8, c_9]; rfl) | (simp [c_1, k_2, k_3, k_4, k_5, k_8, c_9, bI]; done)))
            · skip
              by_cases k_10 : what = 5
              · refine lv_tableIn (tgt := 119) hx hb dX5_place_18 (by rw [k_10]; decide) (by rw [k_10]; decide) (by rw [k_10]; rfl) (by decide) ?_
                refine lv_aload_n hx hb dX5_place_119 rfl (lv_at hl 1 rfl) ?_
                refine lv_iload_n hx hb dX5_place_120 rfl (lv_at hl 2 rfl) ?_
                refine g_rdV (As := [.int p]) (rest := []) (nL := 4) hx hb hml hown hts (c_X5_quietOf lz G a m n p hn hn8 hpl) gX5_place_X5_quietOf rfl h_X5_quietOf ⟨Nat.le_of_ble_eq_true rfl, Nat.le_of_ble_eq_true rfl⟩ hK hP (ci := 5) rfl rfl rfl rfl hl.1 rfl (Nat.le_of_ble_eq_true rfl) ⟨Nat.le_refl _, Nat.le_refl _⟩ dX5_place_121 ?_
                exact g_ri hx hb hr hlocks dX5_place_124 (by rw [yPlR] <;> (first | done | rw [if_pos c_1] | rw [if_neg c_1] | rw [if_neg (by rw [c_1]; decide)] | skip) <;> (first | done | rw [if_pos k_2] | rw [if_neg k_2] | rw [if_neg (by rw [k_2]; decide)] | skip) <;> (first | done | rw [if_pos k_3] | rw [if_neg k_3] | rw [if_neg (by rw [k_3]; decide)] | skip) <;> (first | done | rw [if_pos k_4] | rw [if_neg k_4] | rw [if_neg (by rw [k_4]; decide)] | skip) <;> (first | done | rw [if_pos k_5] | rw [if_neg k_5] | rw [if_neg (by rw [k_5]; decide)] | skip) <;> (first | done | rw [if_pos k_8] | rw [if_neg k_8] | rw [if_neg (by rw [k_8]; decide)] | skip) <;> (first | done | rw [if_pos k_10] | rw [if_neg k_10] | rw [if_neg (by rw [k_10]; decide)] | skip) <;> (first | done | rfl | (simp only [c_1, k_2, k_3, k_4, k_5, k_8, k_10]; rfl) | (simp [c_1, k_2, k_3, k_4, k_5, k_8, k_10, bI]; done)))
              · skip
                refine lv_tableOut (tgt := 125) hx hb dX5_place_18 (by have n0 := lv_neT k_2 (a := 0) (by decide); have n1 := lv_neT k_3 (a := 1) (by decide); have n2 := lv_neT k_4 (a := 2) (by decide); have n3 := lv_neT k_5 (a := 3) (by decide); have n4 := lv_neT k_8 (a := 4) (by decide); have n5 := lv_neT k_10 (a := 5) (by decide); omega) (by decide) ?_
                refine lv_iconst (v := (-1)) hx hb dX5_place_125 (by decide) ?_
                exact g_ri hx hb hr hlocks dX5_place_126 (by rw [yPlR] <;> (first | done | rw [if_pos c_1] | rw [if_neg c_1] | rw [if_neg (by rw [c_1]; decide)] | skip) <;> (first | done | rw [if_pos k_2] | rw [if_neg k_2] | rw [if_neg (by rw [k_2]; decide)] | skip) <;> (first | done | rw [if_pos k_3] | rw [if_neg k_3] | rw [if_neg (by rw [k_3]; decide)] | skip) <;> (first | done | rw [if_pos k_4] | rw [if_neg k_4] | rw [if_neg (by rw [k_4]; decide)] | skip) <;> (first | done | rw [if_pos k_5] | rw [if_neg k_5] | rw [if_neg (by rw [k_5]; decide)] | skip) <;> (first | done | rw [if_pos k_8] | rw [if_neg k_8] | rw [if_neg (by rw [k_8]; decide)] | skip) <;> (first | done | rw [if_pos k_10] | rw [if_neg k_10] | rw [if_neg (by rw [k_10]; decide)] | skip) <;> (first | done | rfl | (simp only [c_1, k_2, k_3, k_4, k_5, k_8, k_10]; rfl) | (simp [c_1, k_2, k_3, k_4, k_5, k_8, k_10, bI]; done)))
  · skip
    have c_1 := bI_0 c_1
    refine lv_iconst (v := (-1)) hx hb dX5_place_8 (by decide) ?_
    exact g_ri hx hb hr hlocks dX5_place_9 (by rw [yPlR] <;> (first | done | rw [if_pos c_1] | rw [if_neg c_1] | rw [if_neg (by rw [c_1]; decide)] | skip) <;> (first | done | rfl | (simp only [c_1]; rfl) | (simp [c_1, bI]; done)))
