theorem gl_d0 {j : Nat} (c : nI j - 1 < 0) (h : j < 2 ^ 31) : j = 0 := by
  rcases Nat.eq_zero_or_pos j with q | q
  · exact q
  · rw [show nI j - 1 = nI (j - 1) from pk_sub (b := 1) q] at c
    exact absurd c (nI_pos (by omega))
theorem gl_d1 {j : Nat} (c : ¬ nI j - 1 < 0) : 1 ≤ j := by
  rcases Nat.eq_zero_or_pos j with q | q
  · exact absurd (by rw [q]; decide) c
  · exact q
theorem gl_dj {j : Nat} (h : 1 ≤ j) : nI j - 1 = nI (j - 1) := pk_sub (b := 1) h
theorem gl_di {j : Nat} (h : 1 ≤ j) : nI j - 1 + Int32.ofInt (-1) = nI (j - 1) - 1 := by
  rw [gl_dj h]
  rw [show Int32.ofInt (-1) = -1 from rfl, Int32.sub_eq_add_neg]
def cF (q : Nat → Bool) : Nat → Nat → Nat
  | 0, _ => 0
  | f + 1, i => if q i then cF q f (i + 1) + 1 else cF q f (i + 1)
theorem fD_y {q : Nat → Bool} {N j : Nat} (h1 : 1 ≤ j) (h2 : j ≤ N) (h : q (j - 1) = true) : nI (j - 1) = oI (firstF q (N - (j - 1)) (j - 1)) := by
  rw [show N - (j - 1) = (N - j) + 1 by omega, firstF, if_pos h]
  rfl
theorem fD_n {q : Nat → Bool} {N j : Nat} {x : Int32} (h1 : 1 ≤ j) (h2 : j ≤ N) (hx : x = oI (firstF q (N - j) j)) (h : q (j - 1) = false) : x = oI (firstF q (N - (j - 1)) (j - 1)) := by
  rw [show N - (j - 1) = (N - j) + 1 by omega, firstF, if_neg (by rw [h]; decide), show j - 1 + 1 = j by omega]
  exact hx
theorem cD_y {q : Nat → Bool} {N j y : Nat} (h1 : 1 ≤ j) (h2 : j ≤ N) (hy : y = cF q (N - j) j) (h : q (j - 1) = true) : y + 1 = cF q (N - (j - 1)) (j - 1) := by
  rw [show N - (j - 1) = (N - j) + 1 by omega, cF, if_pos h, show j - 1 + 1 = j by omega, hy]
theorem cD_n {q : Nat → Bool} {N j y : Nat} (h1 : 1 ≤ j) (h2 : j ≤ N) (hy : y = cF q (N - j) j) (h : q (j - 1) = false) : y = cF q (N - (j - 1)) (j - 1) := by
  rw [show N - (j - 1) = (N - j) + 1 by omega, cF, if_neg (by rw [h]; decide), show j - 1 + 1 = j by omega, hy]
def yWhR (m : MdS) (s p what : Int32) : Int32 := if wIn s 0 (m.st 1 - 1) then (if wIn p 0 (m.pl - 1) then (if wIn what 0 1 then (if what = 0 then oI (firstF (fun k => decide (0 < dSt m s.toNatClampNeg (nI k)) && decide (dPl m s.toNatClampNeg (nI k) = p)) (1000 - 0) 0) else nI (cF (fun k => decide (0 < dSt m s.toNatClampNeg (nI k)) && decide (dPl m s.toNatClampNeg (nI k) = p)) (1000 - 0) 0)) else -1) else -1) else -1
def yMeR (m : MdS) (s t : Int32) : Int32 := if wIn s 0 (m.st 1 - 1) then (if wIn t 0 (m.st 1 - 1) then (if s = t then -1 else oI (firstF (fun k => decide (0 < dSt m s.toNatClampNeg (nI k)) && (decide (0 < dSt m t.toNatClampNeg (nI k)) && decide (dPl m s.toNatClampNeg (nI k) = dPl m t.toNatClampNeg (nI k)))) 1000 0)) else -1) else -1
def yBe2 (m : MdS) (n : Nat) (q sp lo : Int32) (i : Nat) : Int32 := if 0 < lo - m.loss * (sp * nI i / m.pl) then oI (firstF (fun w => decide (dLo m n (dSn m n q (nI w + nI i)) (nI w + nI i) < lo - m.loss * (sp * nI i / m.pl))) 100 0) else -9
def yBe1 (m : MdS) (n : Nat) (q sp lo : Int32) : Option Nat → Int32
  | none => -9
  | some i => yBe2 m n q sp lo i
def yBeR (m : MdS) (n N : Nat) (p q sp wa lo : Int32) : Int32 := if wIn p 0 (m.pl - 1) then (if wIn q 0 (m.pl - 1) then (if wIn sp 1 6 then (if wIn wa 0 1 then (if wIn lo 1 30 then yBe1 m n q sp lo (firstF (fun k => decide (dBy m p sp wa (nI k) = q)) N 0) else -1) else -1) else -1) else -1) else -1
def dOth (m : MdS) (n s : Nat) : Int32 := dSn m n (dPl m s 0) 0 &&& (((1 : Int32) <<< (nI s &&& 31)) ^^^ (-1))
theorem and_nat {x y : Int32} {O : Nat} (h : x = nI O) (hO : O < 256) : ∃ U : Nat, U < 256 ∧ x &&& y = nI U := by
  refine ⟨(x &&& y).toBitVec.toNat, ?_, ?_⟩
  · show (x.toBitVec &&& y.toBitVec).toNat < 256
    rw [h, BitVec.toNat_and, pk_tn (by omega)]
    exact Nat.lt_of_le_of_lt Nat.and_le_left hO
  · apply Int32.toBitVec_inj.mp
    apply BitVec.eq_of_toNat_eq
    rw [pk_tn (x &&& y).toBitVec.isLt]
theorem dOth_nat (m : MdS) (n s : Nat) (hn8 : n ≤ 8) : ∃ O : Nat, O < 256 ∧ dOth m n s = nI O := by
  obtain ⟨O, h1, h2⟩ := bits_nat (fun t => decide (0 < dSt m t 0) && decide (dPl m t 0 = dPl m s 0)) n (by omega)
  exact and_nat h2 (Nat.lt_of_lt_of_le h1 (show 2 ^ n ≤ 2 ^ 8 from Nat.pow_le_pow_right (by omega) hn8))
/-- the sets tried so far are those from j on, from the greatest down -/
def dFewL (m : MdS) (n s T : Nat) : Nat → Int32
  | 0 => dOth m n s
  | f + 1 => if nI (T - (f + 1)) &&& (dOth m n s ^^^ (-1)) = 0 then (if bitsK (dFewL m n s T f) < bitsK (nI (T - (f + 1))) then dFewL m n s T f else (if dLo m n (dOth m n s &&& (nI (T - (f + 1)) ^^^ (-1))) 0 < dSt m s 0 then nI (T - (f + 1)) else dFewL m n s T f)) else dFewL m n s T f
def dFew (m : MdS) (n s T j : Nat) : Int32 := dFewL m n s T (T - j)
theorem dFew_s {m : MdS} {n s T j : Nat} (h1 : 1 ≤ j) (h2 : j ≤ T) : dFew m n s T (j - 1) = if nI (j - 1) &&& (dOth m n s ^^^ (-1)) = 0 then (if bitsK (dFew m n s T j) < bitsK (nI (j - 1)) then dFew m n s T j else (if dLo m n (dOth m n s &&& (nI (j - 1) ^^^ (-1))) 0 < dSt m s 0 then nI (j - 1) else dFew m n s T j)) else dFew m n s T j := by
  unfold dFew
  rw [show T - (j - 1) = (T - j) + 1 by omega, dFewL, show T - (T - j + 1) = j - 1 by omega]
def yStR (m : MdS) (n : Nat) (s : Int32) : Int32 := if wIn s 0 (m.st 1 - 1) then (if dSt m s.toNatClampNeg 0 = 0 then -9 else dFew m n s.toNatClampNeg ((dOth m n s.toNatClampNeg).toNatClampNeg + 1) 0) else -1
theorem h_X5_when : yX5_when.cls = RX5 ∧ yX5_when.cls ≠ "java/lang/invoke/MethodHandle" ∧ yX5_when.cls ≠ "java/lang/invoke/VarHandle" ∧ (parseMethodDescriptor yX5_when.desc).map (fun d => d.parameters.length) = some 3 := by decide +kernel
set_option maxHeartbeats 4000000 in
set_option maxRecDepth 100000 in
theorem c_X5_when (lz : Launch) (G : gG) (a : Nat → Nat) (m : MdS) (n : Nat) (s p what : Int32) (hn : m.st 1 = nI n) (hn8 : n ≤ 8) (hpl : ¬ m.pl = 0) : gRd lz yX5_when wsX5_when 3 G [.ref (a 0), .int s, .int p, .int what] (wMd a G.2.1 G.2.2.1 m) (yWhR m s p what) := by
  refine g_rd (by decide) rfl (Nat.le_of_ble_eq_true rfl) ?_
  intro pz ez sz mz bz tz cz hx hb hr hml hown hts hlocks hP hK ls hl
  have hl : lv_has ls 7 [(0, .ref (a 0)), (1, .int s), (2, .int p), (3, .int what)] := hl
  refine lv_aload_n hx hb dX5_when_0 rfl (lv_at hl 0 rfl) ?_
  refine lv_iload_n hx hb dX5_when_1 rfl (lv_at hl 1 rfl) ?_
  refine g_rdV (As := [.int s]) (rest := []) (nL := 7) hx hb hml hown hts (c_X5_isSaying lz G a m s) gX5_when_X5_isSaying rfl h_X5_isSaying ⟨Nat.le_of_ble_eq_true rfl, Nat.le_of_ble_eq_true rfl⟩ hK hP (ci := 5) rfl rfl rfl rfl hl.1 rfl (Nat.le_of_ble_eq_true rfl) ⟨Nat.le_refl _, Nat.le_refl _⟩ dX5_when_2 ?_
  refine lv_if_eq (tgt := 25) hx hb dX5_when_5 (by decide) (fun c_1 => ?_) (fun c_1 => ?_)
  · skip
    have c_1 := bI_0 c_1
    refine lv_iconst (v := (-1)) hx hb dX5_when_25 (by decide) ?_
    exact g_ri hx hb hr hlocks dX5_when_26 (by rw [yWhR] <;> (first | done | rw [if_pos c_1] | rw [if_neg c_1] | rw [if_neg (by rw [c_1]; decide)] | skip) <;> (first | done | rfl | (simp only [c_1]; rfl) | (simp [c_1, bI]; done)))
  · skip
    have c_1 := bI_1 c_1
    obtain ⟨hj, hsj⟩ := wIn_nat hn hn8 c_1
    refine lv_aload_n hx hb dX5_when_8 rfl (lv_at hl 0 rfl) ?_
    refine lv_iload_n hx hb dX5_when_9 rfl (lv_at hl 2 rfl) ?_
    refine g_rdV (As := [.int p]) (rest := []) (nL := 7) hx hb hml hown hts (c_X5_isPlace lz G a m p) gX5_when_X5_isPlace rfl h_X5_isPlace ⟨Nat.le_of_ble_eq_true rfl, Nat.le_of_ble_eq_true rfl⟩ hK hP (ci := 5) rfl rfl rfl rfl hl.1 rfl (Nat.le_of_ble_eq_true rfl) ⟨Nat.le_refl _, Nat.le_refl _⟩ dX5_when_10 ?_
    refine lv_if_eq (tgt := 25) hx hb dX5_when_13 (by decide) (fun c_2 => ?_) (fun c_2 => ?_)
    · skip
      have c_2 := bI_0 c_2
      refine lv_iconst (v := (-1)) hx hb dX5_when_25 (by decide) ?_
      exact g_ri hx hb hr hlocks dX5_when_26 (by rw [yWhR] <;> (first | done | rw [if_pos c_1] | rw [if_neg c_1] | rw [if_neg (by rw [c_1]; decide)] | skip) <;> (first | done | rw [if_pos c_2] | rw [if_neg c_2] | rw [if_neg (by rw [c_2]; decide)] | skip) <;> (first | done | rfl | (simp only [c_1, c_2]; rfl) | (simp [c_1, c_2, bI]; done)))
    · skip
      have c_2 := bI_1 c_2
      refine lv_iload_n hx hb dX5_when_16 rfl (lv_at hl 3 rfl) ?_
      refine lv_iconst (v := 0) hx hb dX5_when_17 (by decide) ?_
      refine lv_iconst (v := 1) hx hb dX5_when_18 (by decide) ?_
      refine g_rdS (As := [.int what, .int 0, .int 1]) (rest := []) (nL := 7) hx hb hml hown hts (c_X5_in lz G what 0 1) gX5_when_X5_in rfl h_X5_in ⟨Nat.le_of_ble_eq_true rfl, Nat.le_of_ble_eq_true rfl⟩ hK gP_nil rfl hl.1 rfl (Nat.le_of_ble_eq_true rfl) ⟨Nat.le_refl _, Nat.le_refl _⟩ dX5_when_19 ?_
      refine lv_if_ne (tgt := 27) hx hb dX5_when_22 (by decide) (fun c_3 => ?_) (fun c_3 => ?_)
      · skip
        have c_3 := bI_1 c_3
        refine lv_bipush (v := (-9)) hx hb dX5_when_27 (by decide) ?_
        refine lv_istore (lv' := [(4, .int (-9)), (0, .ref (a 0)), (1, .int s), (2, .int p), (3, .int what)]) hx hb dX5_when_29 hl (by decide) rfl (fun ls hl => ?_)
        refine lv_iconst (v := 0) hx hb dX5_when_31 (by decide) ?_
        refine lv_istore (lv' := [(5, .int 0), (4, .int (-9)), (0, .ref (a 0)), (1, .int s), (2, .int p), (3, .int what)]) hx hb dX5_when_32 hl (by decide) rfl (fun ls hl => ?_)
        refine lv_sipush (v := 999) hx hb dX5_when_34 (by decide) ?_
        refine lv_istore (lv' := [(6, .int 999), (5, .int 0), (4, .int (-9)), (0, .ref (a 0)), (1, .int s), (2, .int p), (3, .int what)]) hx hb dX5_when_37 hl (by decide) rfl (fun ls hl => ?_)
        have lp_39 : ∀ (fu_39 : Nat) (j : Nat) (x : Int32) (y : Nat), (j ≤ 1000) → (x = oI (firstF (fun k => decide (0 < dSt m s.toNatClampNeg (nI k)) && decide (dPl m s.toNatClampNeg (nI k) = p)) (1000 - j) j)) → (y = cF (fun k => decide (0 < dSt m s.toNatClampNeg (nI k)) && decide (dPl m s.toNatClampNeg (nI k) = p)) (1000 - j) j) → j < fu_39 → ∀ ls : Array Slot, lv_has ls 7 [(0, .ref (a 0)), (1, .int s), (2, .int p), (3, .int what), (4, .int x), (5, .int (nI y)), (6, .int (nI j - 1))] → W pz lz ez (gRm 3) sz mz ([.ref (a 0), .int s, .int p, .int what] : List Value).toArray bz tz cz sz.heap [] 0 0 (MQ bz (vp_Si (fun xx_ => xx_ = yWhR m s p what)) ([.ref (a 0), .int s, .int p, .int what] : List Value).toArray sz 0 0 (fun _ => False)) (F0 mz 39 ls []) := by
          intro fu_39
          induction fu_39 with
          | zero =>
            intro j x y hj0 hac hac2 hf_39
            exact absurd hf_39 (Nat.not_lt_zero _)
          | succ fu_39 ih_39 =>
            intro j x y hj0 hac hac2 hf_39 ls hl
            refine lv_iload hx hb dX5_when_39 (lv_at hl 6 rfl) ?_
            refine lv_if_lt (tgt := 78) hx hb dX5_when_41 (by decide) (fun c_4 => ?_) (fun c_4 => ?_)
            · skip
              have hx2 : j = 0 := gl_d0 c_4 (by omega)
              refine lv_iload_n hx hb dX5_when_78 rfl (lv_at hl 3 rfl) ?_
              refine lv_if_ne (tgt := 87) hx hb dX5_when_79 (by decide) (fun c_5 => ?_) (fun c_5 => ?_)
              · skip
                refine lv_iload hx hb dX5_when_87 (lv_at hl 5 rfl) ?_
                exact g_ri hx hb hr hlocks dX5_when_89 (by rw [yWhR] <;> (first | done | rw [if_pos c_1] | rw [if_neg c_1] | rw [if_neg (by rw [c_1]; decide)] | skip) <;> (first | done | rw [if_pos c_2] | rw [if_neg c_2] | rw [if_neg (by rw [c_2]; decide)] | skip) <;> (first | done | rw [if_pos c_3] | rw [if_neg c_3] | rw [if_neg (by rw [c_3]; decide)] | skip) <;> (first | done | rw [if_pos c_4] | rw [if_neg c_4] | rw [if_neg (by rw [c_4]; decide)] | skip) <;> (first | done | rw [if_pos c_5] | rw [if_neg c_5] | rw [if_neg (by rw [c_5]; decide)] | skip) <;> (first | done | (rw [hac2, hx2])))
              · skip
                refine lv_iload hx hb dX5_when_82 (lv_at hl 4 rfl) ?_
                refine lv_goto (tgt := 89) hx hb dX5_when_84 (by decide) ?_
                exact g_ri hx hb hr hlocks dX5_when_89 (by rw [yWhR] <;> (first | done | rw [if_pos c_1] | rw [if_neg c_1] | rw [if_neg (by rw [c_1]; decide)] | skip) <;> (first | done | rw [if_pos c_2] | rw [if_neg c_2] | rw [if_neg (by rw [c_2]; decide)] | skip) <;> (first | done | rw [if_pos c_3] | rw [if_neg c_3] | rw [if_neg (by rw [c_3]; decide)] | skip) <;> (first | done | rw [if_pos c_4] | rw [if_neg c_4] | rw [if_neg (by rw [c_4]; decide)] | skip) <;> (first | done | rw [if_pos c_5] | rw [if_neg c_5] | rw [if_neg (by rw [c_5]; decide)] | skip) <;> (first | done | (rw [hac, hx2])))
            · skip
              have hj1 : 1 ≤ j := gl_d1 c_4
              refine lv_aload_n hx hb dX5_when_44 rfl (lv_at hl 0 rfl) ?_
              refine lv_iload_n hx hb dX5_when_45 rfl (lv_at hl 1 rfl) ?_
              refine g_top (y := nI s.toNatClampNeg) (hsj) ?_
              refine lv_iload hx hb dX5_when_46 (lv_at hl 6 rfl) ?_
              refine g_top (y := nI (j - 1)) (gl_dj hj1) ?_
              refine g_rdV (As := [.int (nI s.toNatClampNeg), .int (nI (j - 1))]) (rest := []) (nL := 7) hx hb hml hown hts (c_X5_strengthOf lz G a m s.toNatClampNeg (nI (j - 1)) (by omega) hpl) gX5_when_X5_strengthOf rfl h_X5_strengthOf ⟨Nat.le_of_ble_eq_true rfl, Nat.le_of_ble_eq_true rfl⟩ hK hP (ci := 5) rfl rfl rfl rfl hl.1 rfl (Nat.le_of_ble_eq_true rfl) ⟨Nat.le_refl _, Nat.le_refl _⟩ dX5_when_48 ?_
              refine lv_if_le (tgt := 72) hx hb dX5_when_51 (by decide) (fun c_6 => ?_) (fun c_6 => ?_)
              · skip
                have c_6 := gl_le c_6
                refine lv_iinc (v := nI (j - 1) - 1) (lv' := [(6, .int (nI (j - 1) - 1)), (0, .ref (a 0)), (1, .int s), (2, .int p), (3, .int what), (4, .int x), (5, .int (nI y))]) hx hb dX5_when_72 hl (k := 6) rfl (gl_di hj1) (by decide) rfl (fun ls hl => ?_)
                refine lv_goto (tgt := 39) hx hb dX5_when_75 (by decide) ?_
                exact ih_39 (j - 1) x y (by omega) (fD_n hj1 (by omega) hac (by simp [c_6])) (cD_n hj1 (by omega) hac2 (by simp [c_6])) (by omega) ls (lv_sub hl [1, 2, 3, 4, 5, 6, 0] rfl)
              · skip
                have c_6 := gl_nle c_6
                refine lv_aload_n hx hb dX5_when_54 rfl (lv_at hl 0 rfl) ?_
                refine lv_iload_n hx hb dX5_when_55 rfl (lv_at hl 1 rfl) ?_
                refine g_top (y := nI s.toNatClampNeg) (hsj) ?_
                refine lv_iload hx hb dX5_when_56 (lv_at hl 6 rfl) ?_
                refine g_top (y := nI (j - 1)) (gl_dj hj1) ?_
                refine g_rdV (As := [.int (nI s.toNatClampNeg), .int (nI (j - 1))]) (rest := []) (nL := 7) hx hb hml hown hts (c_X5_placeOf lz G a m s.toNatClampNeg (nI (j - 1)) (by omega) hpl) gX5_when_X5_placeOf rfl h_X5_placeOf ⟨Nat.le_of_ble_eq_true rfl, Nat.le_of_ble_eq_true rfl⟩ hK hP (ci := 5) rfl rfl rfl rfl hl.1 rfl (Nat.le_of_ble_eq_true rfl) ⟨Nat.le_refl _, Nat.le_refl _⟩ dX5_when_58 ?_
                refine lv_iload_n hx hb dX5_when_61 rfl (lv_at hl 2 rfl) ?_
                refine lv_icmp_ne (tgt := 72) hx hb dX5_when_62 (by decide) (fun c_7 => ?_) (fun c_7 => ?_)
                · skip
                  refine lv_iinc (v := nI (j - 1) - 1) (lv' := [(6, .int (nI (j - 1) - 1)), (0, .ref (a 0)), (1, .int s), (2, .int p), (3, .int what), (4, .int x), (5, .int (nI y))]) hx hb dX5_when_72 hl (k := 6) rfl (gl_di hj1) (by decide) rfl (fun ls hl => ?_)
                  refine lv_goto (tgt := 39) hx hb dX5_when_75 (by decide) ?_
                  exact ih_39 (j - 1) x y (by omega) (fD_n hj1 (by omega) hac (by simp [c_6, c_7])) (cD_n hj1 (by omega) hac2 (by simp [c_6, c_7])) (by omega) ls (lv_sub hl [1, 2, 3, 4, 5, 6, 0] rfl)
                · skip
                  refine lv_iload hx hb dX5_when_65 (lv_at hl 6 rfl) ?_
                  refine g_top (y := nI (j - 1)) (gl_dj hj1) ?_
                  refine lv_istore (lv' := [(4, .int (nI (j - 1))), (0, .ref (a 0)), (1, .int s), (2, .int p), (3, .int what), (5, .int (nI y)), (6, .int (nI j - 1))]) hx hb dX5_when_67 hl (by decide) rfl (fun ls hl => ?_)
                  refine lv_iinc (v := nI (y + 1)) (lv' := [(5, .int (nI (y + 1))), (4, .int (nI (j - 1))), (0, .ref (a 0)), (1, .int s), (2, .int p), (3, .int what), (6, .int (nI j - 1))]) hx hb dX5_when_69 hl (k := 5) rfl (nI_1 y) (by decide) rfl (fun ls hl => ?_)
                  refine lv_iinc (v := nI (j - 1) - 1) (lv' := [(6, .int (nI (j - 1) - 1)), (5, .int (nI (y + 1))), (4, .int (nI (j - 1))), (0, .ref (a 0)), (1, .int s), (2, .int p), (3, .int what)]) hx hb dX5_when_72 hl (k := 6) rfl (gl_di hj1) (by decide) rfl (fun ls hl => ?_)
                  refine lv_goto (tgt := 39) hx hb dX5_when_75 (by decide) ?_
                  exact ih_39 (j - 1) (nI (j - 1)) (y + 1) (by omega) (fD_y hj1 (by omega) (by simp [c_6, c_7])) (cD_y hj1 (by omega) hac2 (by simp [c_6, c_7])) (by omega) ls (lv_sub hl [3, 4, 5, 6, 2, 1, 0] rfl)
        exact lp_39 (1000 + 1) 1000 (-9) 0 (Nat.le_refl _) rfl rfl (Nat.lt_succ_self _) ls (lv_sub hl [3, 4, 5, 6, 2, 1, 0] rfl)
      · skip
        have c_3 := bI_0 c_3
        refine lv_iconst (v := (-1)) hx hb dX5_when_25 (by decide) ?_
        exact g_ri hx hb hr hlocks dX5_when_26 (by rw [yWhR] <;> (first | done | rw [if_pos c_1] | rw [if_neg c_1] | rw [if_neg (by rw [c_1]; decide)] | skip) <;> (first | done | rw [if_pos c_2] | rw [if_neg c_2] | rw [if_neg (by rw [c_2]; decide)] | skip) <;> (first | done | rw [if_pos c_3] | rw [if_neg c_3] | rw [if_neg (by rw [c_3]; decide)] | skip) <;> (first | done | rfl | (simp only [c_1, c_2, c_3]; rfl) | (simp [c_1, c_2, c_3, bI]; done)))

theorem h_X5_meet : yX5_meet.cls = RX5 ∧ yX5_meet.cls ≠ "java/lang/invoke/MethodHandle" ∧ yX5_meet.cls ≠ "java/lang/invoke/VarHandle" ∧ (parseMethodDescriptor yX5_meet.desc).map (fun d => d.parameters.length) = some 2 := by decide +kernel
set_option maxHeartbeats 4000000 in
set_option maxRecDepth 100000 in
theorem c_X5_meet (lz : Launch) (G : gG) (a : Nat → Nat) (m : MdS) (n : Nat) (s t : Int32) (hn : m.st 1 = nI n) (hn8 : n ≤ 8) (hpl : ¬ m.pl = 0) : gRd lz yX5_meet wsX5_meet 3 G [.ref (a 0), .int s, .int t] (wMd a G.2.1 G.2.2.1 m) (yMeR m s t) := by
  refine g_rd (by decide) rfl (Nat.le_of_ble_eq_true rfl) ?_
  intro pz ez sz mz bz tz cz hx hb hr hml hown hts hlocks hP hK ls hl
  have hl : lv_has ls 4 [(0, .ref (a 0)), (1, .int s), (2, .int t)] := hl
  refine lv_aload_n hx hb dX5_meet_0 rfl (lv_at hl 0 rfl) ?_
  refine lv_iload_n hx hb dX5_meet_1 rfl (lv_at hl 1 rfl) ?_
  refine g_rdV (As := [.int s]) (rest := []) (nL := 4) hx hb hml hown hts (c_X5_isSaying lz G a m s) gX5_meet_X5_isSaying rfl h_X5_isSaying ⟨Nat.le_of_ble_eq_true rfl, Nat.le_of_ble_eq_true rfl⟩ hK hP (ci := 5) rfl rfl rfl rfl hl.1 rfl (Nat.le_of_ble_eq_true rfl) ⟨Nat.le_refl _, Nat.le_refl _⟩ dX5_meet_2 ?_
  refine lv_if_eq (tgt := 21) hx hb dX5_meet_5 (by decide) (fun c_1 => ?_) (fun c_1 => ?_)
  · skip
    have c_1 := bI_0 c_1
    refine lv_iconst (v := (-1)) hx hb dX5_meet_21 (by decide) ?_
    exact g_ri hx hb hr hlocks dX5_meet_22 (by rw [yMeR] <;> (first | done | rw [if_pos c_1] | rw [if_neg c_1] | rw [if_neg (by rw [c_1]; decide)] | skip) <;> (first | done | rfl | (simp only [c_1]; rfl) | (simp [c_1, bI]; done)))
  · skip
    have c_1 := bI_1 c_1
    obtain ⟨hj, hsj⟩ := wIn_nat hn hn8 c_1
    refine lv_aload_n hx hb dX5_meet_8 rfl (lv_at hl 0 rfl) ?_
    refine lv_iload_n hx hb dX5_meet_9 rfl (lv_at hl 2 rfl) ?_
    refine g_rdV (As := [.int t]) (rest := []) (nL := 4) hx hb hml hown hts (c_X5_isSaying lz G a m t) gX5_meet_X5_isSaying rfl h_X5_isSaying ⟨Nat.le_of_ble_eq_true rfl, Nat.le_of_ble_eq_true rfl⟩ hK hP (ci := 5) rfl rfl rfl rfl hl.1 rfl (Nat.le_of_ble_eq_true rfl) ⟨Nat.le_refl _, Nat.le_refl _⟩ dX5_meet_10 ?_
    refine lv_if_eq (tgt := 21) hx hb dX5_meet_13 (by decide) (fun c_2 => ?_) (fun c_2 => ?_)
    · skip
      have c_2 := bI_0 c_2
      refine lv_iconst (v := (-1)) hx hb dX5_meet_21 (by decide) ?_
      exact g_ri hx hb hr hlocks dX5_meet_22 (by rw [yMeR] <;> (first | done | rw [if_pos c_1] | rw [if_neg c_1] | rw [if_neg (by rw [c_1]; decide)] | skip) <;> (first | done | rw [if_pos c_2] | rw [if_neg c_2] | rw [if_neg (by rw [c_2]; decide)] | skip) <;> (first | done | rfl | (simp only [c_1, c_2]; rfl) | (simp [c_1, c_2, bI]; done)))
    · skip
      have c_2 := bI_1 c_2
      obtain ⟨hj2, htj⟩ := wIn_nat hn hn8 c_2
      refine lv_iload_n hx hb dX5_meet_16 rfl (lv_at hl 1 rfl) ?_
      refine lv_iload_n hx hb dX5_meet_17 rfl (lv_at hl 2 rfl) ?_
      refine lv_icmp_ne (tgt := 23) hx hb dX5_meet_18 (by decide) (fun c_3 => ?_) (fun c_3 => ?_)
      · skip
        refine lv_iconst (v := 0) hx hb dX5_meet_23 (by decide) ?_
        refine lv_istore_n (lv' := [(3, .int 0), (0, .ref (a 0)), (1, .int s), (2, .int t)]) hx hb dX5_meet_24 rfl hl (by decide) rfl (fun ls hl => ?_)
        have lp_25 : ∀ (fu_25 : Nat) (i : Nat), (i ≤ 1000) → (firstF (fun k => decide (0 < dSt m s.toNatClampNeg (nI k)) && (decide (0 < dSt m t.toNatClampNeg (nI k)) && decide (dPl m s.toNatClampNeg (nI k) = dPl m t.toNatClampNeg (nI k)))) 1000 0 = firstF (fun k => decide (0 < dSt m s.toNatClampNeg (nI k)) && (decide (0 < dSt m t.toNatClampNeg (nI k)) && decide (dPl m s.toNatClampNeg (nI k) = dPl m t.toNatClampNeg (nI k)))) (1000 - i) i) → 1000 - i < fu_25 → ∀ ls : Array Slot, lv_has ls 4 [(0, .ref (a 0)), (1, .int s), (2, .int t), (3, .int (nI i))] → W pz lz ez (gRm 3) sz mz ([.ref (a 0), .int s, .int t] : List Value).toArray bz tz cz sz.heap [] 0 0 (MQ bz (vp_Si (fun xx_ => xx_ = yMeR m s t)) ([.ref (a 0), .int s, .int t] : List Value).toArray sz 0 0 (fun _ => False)) (F0 mz 25 ls []) := by
          intro fu_25
          induction fu_25 with
          | zero =>
            intro i hi he hf_25
            exact absurd hf_25 (Nat.not_lt_zero _)
          | succ fu_25 ih_25 =>
            intro i hi he hf_25 ls hl
            refine lv_iload_n hx hb dX5_meet_25 rfl (lv_at hl 3 rfl) ?_
            refine lv_sipush (v := 999) hx hb dX5_meet_26 (by decide) ?_
            refine lv_icmp_gt (tgt := 73) hx hb dX5_meet_29 (by decide) (fun c_4 => ?_) (fun c_4 => ?_)
            · skip
              have hx2 : 1000 ≤ i := gl_cx (k := 999) rfl (by decide) (by omega) c_4
              refine lv_bipush (v := (-9)) hx hb dX5_meet_73 (by decide) ?_
              exact g_ri hx hb hr hlocks dX5_meet_75 (by rw [yMeR] <;> (first | done | rw [if_pos c_1] | rw [if_neg c_1] | rw [if_neg (by rw [c_1]; decide)] | skip) <;> (first | done | rw [if_pos c_2] | rw [if_neg c_2] | rw [if_neg (by rw [c_2]; decide)] | skip) <;> (first | done | rw [if_pos c_3] | rw [if_neg c_3] | rw [if_neg (by rw [c_3]; decide)] | skip) <;> exact (oI_n (fF_e he hx2)))
            · skip
              have hlt : i < 1000 := Nat.lt_succ_of_le (gl_ci (k := 999) rfl (by decide) (by omega) c_4)
              refine lv_aload_n hx hb dX5_meet_32 rfl (lv_at hl 0 rfl) ?_
              refine lv_iload_n hx hb dX5_meet_33 rfl (lv_at hl 1 rfl) ?_
              refine g_top (y := nI s.toNatClampNeg) (hsj) ?_
              refine lv_iload_n hx hb dX5_meet_34 rfl (lv_at hl 3 rfl) ?_
              refine g_rdV (As := [.int (nI s.toNatClampNeg), .int (nI i)]) (rest := []) (nL := 4) hx hb hml hown hts (c_X5_strengthOf lz G a m s.toNatClampNeg (nI i) (by omega) hpl) gX5_meet_X5_strengthOf rfl h_X5_strengthOf ⟨Nat.le_of_ble_eq_true rfl, Nat.le_of_ble_eq_true rfl⟩ hK hP (ci := 5) rfl rfl rfl rfl hl.1 rfl (Nat.le_of_ble_eq_true rfl) ⟨Nat.le_refl _, Nat.le_refl _⟩ dX5_meet_35 ?_
              refine lv_if_le (tgt := 67) hx hb dX5_meet_38 (by decide) (fun c_5 => ?_) (fun c_5 => ?_)
              · skip
                have c_5 := gl_le c_5
                refine lv_iinc (v := nI (i + 1)) (lv' := [(3, .int (nI (i + 1))), (0, .ref (a 0)), (1, .int s), (2, .int t)]) hx hb dX5_meet_67 hl (k := 3) rfl (nI_1 i) (by decide) rfl (fun ls hl => ?_)
                refine lv_goto (tgt := 25) hx hb dX5_meet_70 (by decide) ?_
                exact ih_25 (i + 1) hlt (fF_n he hlt (by simp [c_5])) (by omega) ls (lv_sub hl [1, 2, 3, 0] rfl)
              · skip
                have c_5 := gl_nle c_5
                refine lv_aload_n hx hb dX5_meet_41 rfl (lv_at hl 0 rfl) ?_
                refine lv_iload_n hx hb dX5_meet_42 rfl (lv_at hl 2 rfl) ?_
                refine g_top (y := nI t.toNatClampNeg) (htj) ?_
                refine lv_iload_n hx hb dX5_meet_43 rfl (lv_at hl 3 rfl) ?_
                refine g_rdV (As := [.int (nI t.toNatClampNeg), .int (nI i)]) (rest := []) (nL := 4) hx hb hml hown hts (c_X5_strengthOf lz G a m t.toNatClampNeg (nI i) (by omega) hpl) gX5_meet_X5_strengthOf rfl h_X5_strengthOf ⟨Nat.le_of_ble_eq_true rfl, Nat.le_of_ble_eq_true rfl⟩ hK hP (ci := 5) rfl rfl rfl rfl hl.1 rfl (Nat.le_of_ble_eq_true rfl) ⟨Nat.le_refl _, Nat.le_refl _⟩ dX5_meet_44 ?_
                refine lv_if_le (tgt := 67) hx hb dX5_meet_47 (by decide) (fun c_6 => ?_) (fun c_6 => ?_)
                · skip
                  have c_6 := gl_le c_6
                  refine lv_iinc (v := nI (i + 1)) (lv' := [(3, .int (nI (i + 1))), (0, .ref (a 0)), (1, .int s), (2, .int t)]) hx hb dX5_meet_67 hl (k := 3) rfl (nI_1 i) (by decide) rfl (fun ls hl => ?_)
                  refine lv_goto (tgt := 25) hx hb dX5_meet_70 (by decide) ?_
                  exact ih_25 (i + 1) hlt (fF_n he hlt (by simp [c_5, c_6])) (by omega) ls (lv_sub hl [1, 2, 3, 0] rfl)
                · skip
                  have c_6 := gl_nle c_6
                  refine lv_aload_n hx hb dX5_meet_50 rfl (lv_at hl 0 rfl) ?_
                  refine lv_iload_n hx hb dX5_meet_51 rfl (lv_at hl 1 rfl) ?_
                  refine g_top (y := nI s.toNatClampNeg) (hsj) ?_
                  refine lv_iload_n hx hb dX5_meet_52 rfl (lv_at hl 3 rfl) ?_
                  refine g_rdV (As := [.int (nI s.toNatClampNeg), .int (nI i)]) (rest := []) (nL := 4) hx hb hml hown hts (c_X5_placeOf lz G a m s.toNatClampNeg (nI i) (by omega) hpl) gX5_meet_X5_placeOf rfl h_X5_placeOf ⟨Nat.le_of_ble_eq_true rfl, Nat.le_of_ble_eq_true rfl⟩ hK hP (ci := 5) rfl rfl rfl rfl hl.1 rfl (Nat.le_of_ble_eq_true rfl) ⟨Nat.le_refl _, Nat.le_refl _⟩ dX5_meet_53 ?_
                  refine lv_aload_n hx hb dX5_meet_56 rfl (lv_at hl 0 rfl) ?_
                  refine lv_iload_n hx hb dX5_meet_57 rfl (lv_at hl 2 rfl) ?_
                  refine g_top (y := nI t.toNatClampNeg) (htj) ?_
                  refine lv_iload_n hx hb dX5_meet_58 rfl (lv_at hl 3 rfl) ?_
                  refine g_rdV (As := [.int (nI t.toNatClampNeg), .int (nI i)]) (rest := [.int (dPl m s.toNatClampNeg (nI i))]) (nL := 4) hx hb hml hown hts (c_X5_placeOf lz G a m t.toNatClampNeg (nI i) (by omega) hpl) gX5_meet_X5_placeOf rfl h_X5_placeOf ⟨Nat.le_of_ble_eq_true rfl, Nat.le_of_ble_eq_true rfl⟩ hK hP (ci := 5) rfl rfl rfl rfl hl.1 rfl (Nat.le_of_ble_eq_true rfl) ⟨Nat.le_refl _, Nat.le_refl _⟩ dX5_meet_59 ?_
                  refine lv_icmp_ne (tgt := 67) hx hb dX5_meet_62 (by decide) (fun c_7 => ?_) (fun c_7 => ?_)
                  · skip
                    refine lv_iinc (v := nI (i + 1)) (lv' := [(3, .int (nI (i + 1))), (0, .ref (a 0)), (1, .int s), (2, .int t)]) hx hb dX5_meet_67 hl (k := 3) rfl (nI_1 i) (by decide) rfl (fun ls hl => ?_)
                    refine lv_goto (tgt := 25) hx hb dX5_meet_70 (by decide) ?_
                    exact ih_25 (i + 1) hlt (fF_n he hlt (by simp [c_5, c_6, c_7])) (by omega) ls (lv_sub hl [1, 2, 3, 0] rfl)
                  · skip
                    refine lv_iload_n hx hb dX5_meet_65 rfl (lv_at hl 3 rfl) ?_
                    exact g_ri hx hb hr hlocks dX5_meet_66 (by rw [yMeR] <;> (first | done | rw [if_pos c_1] | rw [if_neg c_1] | rw [if_neg (by rw [c_1]; decide)] | skip) <;> (first | done | rw [if_pos c_2] | rw [if_neg c_2] | rw [if_neg (by rw [c_2]; decide)] | skip) <;> (first | done | rw [if_pos c_3] | rw [if_neg c_3] | rw [if_neg (by rw [c_3]; decide)] | skip) <;> exact (oI_s (fF_y he hlt (by simp [c_5, c_6, c_7]))))
        exact lp_25 ((1000 - 0) + 1) 0 (Nat.zero_le _) rfl (Nat.lt_succ_self _) ls (lv_sub hl [1, 2, 3, 0] rfl)
      · skip
        refine lv_iconst (v := (-1)) hx hb dX5_meet_21 (by decide) ?_
        exact g_ri hx hb hr hlocks dX5_meet_22 (by rw [yMeR] <;> (first | done | rw [if_pos c_1] | rw [if_neg c_1] | rw [if_neg (by rw [c_1]; decide)] | skip) <;> (first | done | rw [if_pos c_2] | rw [if_neg c_2] | rw [if_neg (by rw [c_2]; decide)] | skip) <;> (first | done | rw [if_pos c_3] | rw [if_neg c_3] | rw [if_neg (by rw [c_3]; decide)] | skip) <;> (first | done | rfl | (simp only [c_1, c_2, c_3]; rfl) | (simp [c_1, c_2, c_3, bI]; done)))

theorem i_X5_best_X5 : ∀ w ∈ wsX50, w ∈ wsX5_best := by decide +kernel
theorem h_X5_best : yX5_best.cls = RX5 ∧ yX5_best.cls ≠ "java/lang/invoke/MethodHandle" ∧ yX5_best.cls ≠ "java/lang/invoke/VarHandle" ∧ (parseMethodDescriptor yX5_best.desc).map (fun d => d.parameters.length) = some 5 := by decide +kernel
set_option maxHeartbeats 4000000 in
set_option maxRecDepth 100000 in
theorem c_X5_best (lz : Launch) (G : gG) (a : Nat → Nat) (m : MdS) (n N : Nat) (p q sp wa lo : Int32) (hN : m.pl = nI N) (hN24 : N ≤ 24) (hn : m.st 1 = nI n) (hn8 : n ≤ 8) (hpl : ¬ m.pl = 0) : gRd lz yX5_best wsX5_best 4 G [.ref (a 0), .int p, .int q, .int sp, .int wa, .int lo] (wMd a G.2.1 G.2.2.1 m) (yBeR m n N p q sp wa lo) := by
  refine g_rd (by decide) rfl (Nat.le_of_ble_eq_true rfl) ?_
  intro pz ez sz mz bz tz cz hx hb hr hml hown hts hlocks hP hK ls hl
  have hl : lv_has ls 9 [(0, .ref (a 0)), (1, .int p), (2, .int q), (3, .int sp), (4, .int wa), (5, .int lo)] := hl
  have f13 := hts (.fieldLink RX5 13 "WhisperRingModel" "places" "I") (by decide +kernel)
  have f17 := hts (.fieldLink RX5 17 "WhisperRingModel" "loss" "I") (by decide +kernel)
  refine lv_aload_n hx hb dX5_best_0 rfl (lv_at hl 0 rfl) ?_
  refine lv_iload_n hx hb dX5_best_1 rfl (lv_at hl 1 rfl) ?_
  refine g_rdV (As := [.int p]) (rest := []) (nL := 9) hx hb hml hown hts (c_X5_isPlace lz G a m p) gX5_best_X5_isPlace rfl h_X5_isPlace ⟨Nat.le_of_ble_eq_true rfl, Nat.le_of_ble_eq_true rfl⟩ hK hP (ci := 5) rfl rfl rfl rfl hl.1 rfl (Nat.le_of_ble_eq_true rfl) ⟨Nat.le_refl _, Nat.le_refl _⟩ dX5_best_2 ?_
  refine lv_if_eq (tgt := 47) hx hb dX5_best_5 (by decide) (fun c_1 => ?_) (fun c_1 => ?_)
  · skip
    have c_1 := bI_0 c_1
    refine lv_iconst (v := (-1)) hx hb dX5_best_47 (by decide) ?_
    exact g_ri hx hb hr hlocks dX5_best_48 (by rw [yBeR] <;> (first | done | rw [if_pos c_1] | rw [if_neg c_1] | rw [if_neg (by rw [c_1]; decide)] | skip) <;> (first | done | rfl | (simp only [c_1]; rfl) | (simp [c_1, bI]; done)))
  · skip
    have c_1 := bI_1 c_1
    refine lv_aload_n hx hb dX5_best_8 rfl (lv_at hl 0 rfl) ?_
    refine lv_iload_n hx hb dX5_best_9 rfl (lv_at hl 2 rfl) ?_
    refine g_rdV (As := [.int q]) (rest := []) (nL := 9) hx hb hml hown hts (c_X5_isPlace lz G a m q) gX5_best_X5_isPlace rfl h_X5_isPlace ⟨Nat.le_of_ble_eq_true rfl, Nat.le_of_ble_eq_true rfl⟩ hK hP (ci := 5) rfl rfl rfl rfl hl.1 rfl (Nat.le_of_ble_eq_true rfl) ⟨Nat.le_refl _, Nat.le_refl _⟩ dX5_best_10 ?_
    refine lv_if_eq (tgt := 47) hx hb dX5_best_13 (by decide) (fun c_2 => ?_) (fun c_2 => ?_)
    · skip
      have c_2 := bI_0 c_2
      refine lv_iconst (v := (-1)) hx hb dX5_best_47 (by decide) ?_
      exact g_ri hx hb hr hlocks dX5_best_48 (by rw [yBeR] <;> (first | done | rw [if_pos c_1] | rw [if_neg c_1] | rw [if_neg (by rw [c_1]; decide)] | skip) <;> (first | done | rw [if_pos c_2] | rw [if_neg c_2] | rw [if_neg (by rw [c_2]; decide)] | skip) <;> (first | done | rfl | (simp only [c_1, c_2]; rfl) | (simp [c_1, c_2, bI]; done)))
    · skip
      have c_2 := bI_1 c_2
      refine lv_iload_n hx hb dX5_best_16 rfl (lv_at hl 3 rfl) ?_
      refine lv_iconst (v := 1) hx hb dX5_best_17 (by decide) ?_
      refine lv_bipush (v := 6) hx hb dX5_best_18 (by decide) ?_
      refine g_rdS (As := [.int sp, .int 1, .int 6]) (rest := []) (nL := 9) hx hb hml hown hts (c_X5_in lz G sp 1 6) gX5_best_X5_in rfl h_X5_in ⟨Nat.le_of_ble_eq_true rfl, Nat.le_of_ble_eq_true rfl⟩ hK gP_nil rfl hl.1 rfl (Nat.le_of_ble_eq_true rfl) ⟨Nat.le_refl _, Nat.le_refl _⟩ dX5_best_20 ?_
      refine lv_if_eq (tgt := 47) hx hb dX5_best_23 (by decide) (fun c_3 => ?_) (fun c_3 => ?_)
      · skip
        have c_3 := bI_0 c_3
        refine lv_iconst (v := (-1)) hx hb dX5_best_47 (by decide) ?_
        exact g_ri hx hb hr hlocks dX5_best_48 (by rw [yBeR] <;> (first | done | rw [if_pos c_1] | rw [if_neg c_1] | rw [if_neg (by rw [c_1]; decide)] | skip) <;> (first | done | rw [if_pos c_2] | rw [if_neg c_2] | rw [if_neg (by rw [c_2]; decide)] | skip) <;> (first | done | rw [if_pos c_3] | rw [if_neg c_3] | rw [if_neg (by rw [c_3]; decide)] | skip) <;> (first | done | rfl | (simp only [c_1, c_2, c_3]; rfl) | (simp [c_1, c_2, c_3, bI]; done)))
      · skip
        have c_3 := bI_1 c_3
        refine lv_iload hx hb dX5_best_26 (lv_at hl 4 rfl) ?_
        refine lv_iconst (v := 0) hx hb dX5_best_28 (by decide) ?_
        refine lv_iconst (v := 1) hx hb dX5_best_29 (by decide) ?_
        refine g_rdS (As := [.int wa, .int 0, .int 1]) (rest := []) (nL := 9) hx hb hml hown hts (c_X5_in lz G wa 0 1) gX5_best_X5_in rfl h_X5_in ⟨Nat.le_of_ble_eq_true rfl, Nat.le_of_ble_eq_true rfl⟩ hK gP_nil rfl hl.1 rfl (Nat.le_of_ble_eq_true rfl) ⟨Nat.le_refl _, Nat.le_refl _⟩ dX5_best_30 ?_
        refine lv_if_eq (tgt := 47) hx hb dX5_best_33 (by decide) (fun c_4 => ?_) (fun c_4 => ?_)
        · skip
          have c_4 := bI_0 c_4
          refine lv_iconst (v := (-1)) hx hb dX5_best_47 (by decide) ?_
          exact g_ri hx hb hr hlocks dX5_best_48 (by rw [yBeR] <;> (first | done | rw [if_pos c_1] | rw [if_neg c_1] | rw [if_neg (by rw [c_1]; decide)] | skip) <;> (first | done | rw [if_pos c_2] | rw [if_neg c_2] | rw [if_neg (by rw [c_2]; decide)] | skip) <;> (first | done | rw [if_pos c_3] | rw [if_neg c_3] | rw [if_neg (by rw [c_3]; decide)] | skip) <;> (first | done | rw [if_pos c_4] | rw [if_neg c_4] | rw [if_neg (by rw [c_4]; decide)] | skip) <;> (first | done | rfl | (simp only [c_1, c_2, c_3, c_4]; rfl) | (simp [c_1, c_2, c_3, c_4, bI]; done)))
        · skip
          have c_4 := bI_1 c_4
          refine lv_iload hx hb dX5_best_36 (lv_at hl 5 rfl) ?_
          refine lv_iconst (v := 1) hx hb dX5_best_38 (by decide) ?_
          refine lv_bipush (v := 30) hx hb dX5_best_39 (by decide) ?_
          refine g_rdS (As := [.int lo, .int 1, .int 30]) (rest := []) (nL := 9) hx hb hml hown hts (c_X5_in lz G lo 1 30) gX5_best_X5_in rfl h_X5_in ⟨Nat.le_of_ble_eq_true rfl, Nat.le_of_ble_eq_true rfl⟩ hK gP_nil rfl hl.1 rfl (Nat.le_of_ble_eq_true rfl) ⟨Nat.le_refl _, Nat.le_refl _⟩ dX5_best_41 ?_
          refine lv_if_ne (tgt := 49) hx hb dX5_best_44 (by decide) (fun c_5 => ?_) (fun c_5 => ?_)
          · skip
            have c_5 := bI_1 c_5
            refine lv_iconst (v := 0) hx hb dX5_best_49 (by decide) ?_
            refine lv_istore (lv' := [(6, .int 0), (0, .ref (a 0)), (1, .int p), (2, .int q), (3, .int sp), (4, .int wa), (5, .int lo)]) hx hb dX5_best_50 hl (by decide) rfl (fun ls hl => ?_)
            have lp_52 : ∀ (fu_52 : Nat) (i : Nat), (i ≤ N) → (firstF (fun k => decide (dBy m p sp wa (nI k) = q)) N 0 = firstF (fun k => decide (dBy m p sp wa (nI k) = q)) (N - i) i) → N - i < fu_52 → ∀ ls : Array Slot, lv_has ls 9 [(0, .ref (a 0)), (1, .int p), (2, .int q), (3, .int sp), (4, .int wa), (5, .int lo), (6, .int (nI i))] → W pz lz ez (gRm 4) sz mz ([.ref (a 0), .int p, .int q, .int sp, .int wa, .int lo] : List Value).toArray bz tz cz sz.heap [] 0 0 (MQ bz (vp_Si (fun xx_ => xx_ = yBeR m n N p q sp wa lo)) ([.ref (a 0), .int p, .int q, .int sp, .int wa, .int lo] : List Value).toArray sz 0 0 (fun _ => False)) (F0 mz 52 ls []) := by
              intro fu_52
              induction fu_52 with
              | zero =>
                intro i hi he hf_52
                exact absurd hf_52 (Nat.not_lt_zero _)
              | succ fu_52 ih_52 =>
                intro i hi he hf_52 ls hl
                refine lv_iload hx hb dX5_best_52 (lv_at hl 6 rfl) ?_
                refine lv_aload_n hx hb dX5_best_54 rfl (lv_at hl 0 rfl) ?_
                refine va_get (D := G.1) (ci := 5) (v := .int m.pl) (C := RX5) (T := TX5) (N := 21) hx hb hts i_X5_best_X5 hown hK.1 hP 0 rfl rfl 2 (by decide) f13 (fun _ h9 => h9) rfl dX5_best_55 ?_
                refine lv_icmp_ge (tgt := 81) hx hb dX5_best_58 (by decide) (fun c_6 => ?_) (fun c_6 => ?_)
                · skip
                  have c_6 := gl_le c_6
                  have hx2 : N ≤ i := gl_ex hN (by omega) (by omega) c_6
                  refine lv_iload hx hb dX5_best_81 (lv_at hl 5 rfl) ?_
                  refine lv_aload_n hx hb dX5_best_83 rfl (lv_at hl 0 rfl) ?_
                  refine va_get (D := G.1) (ci := 5) (v := .int m.loss) (C := RX5) (T := TX5) (N := 21) hx hb hts i_X5_best_X5 hown hK.1 hP 0 rfl rfl 3 (by decide) f17 (fun _ h9 => h9) rfl dX5_best_84 ?_
                  refine lv_iload_n hx hb dX5_best_87 rfl (lv_at hl 3 rfl) ?_
                  refine lv_iload hx hb dX5_best_88 (lv_at hl 6 rfl) ?_
                  refine lv_imul hx hb dX5_best_90 ?_
                  refine lv_aload_n hx hb dX5_best_91 rfl (lv_at hl 0 rfl) ?_
                  refine va_get (D := G.1) (ci := 5) (v := .int m.pl) (C := RX5) (T := TX5) (N := 21) hx hb hts i_X5_best_X5 hown hK.1 hP 0 rfl rfl 2 (by decide) f13 (fun _ h9 => h9) rfl dX5_best_92 ?_
                  refine lv_idiv hx hb dX5_best_95 hpl ?_
                  refine lv_imul hx hb dX5_best_96 ?_
                  refine lv_isub hx hb dX5_best_97 ?_
                  refine lv_istore (lv' := [(7, .int (lo - (m.loss * ((sp * (nI i)) / m.pl)))), (0, .ref (a 0)), (1, .int p), (2, .int q), (3, .int sp), (4, .int wa), (5, .int lo), (6, .int (nI i))]) hx hb dX5_best_98 hl (by decide) rfl (fun ls hl => ?_)
                  refine lv_iload hx hb dX5_best_100 (lv_at hl 7 rfl) ?_
                  refine lv_aload_n hx hb dX5_best_102 rfl (lv_at hl 1 rfl) ?_
                  refine va_get (D := G.1) (ci := 5) (v := .int m.pl) (C := RX5) (T := TX5) (N := 21) hx hb hts i_X5_best_X5 hown hK.1 hP 0 rfl rfl 2 (by decide) f13 (fun _ h9 => h9) rfl dX5_best_103 ?_
                  refine lv_icmp_eq (tgt := 114) hx hb dX5_best_106 (by decide) (fun c_7 => ?_) (fun c_7 => absurd (by rw [hN, show i = N by omega]) c_7)
                  refine lv_bipush (v := (-9)) hx hb dX5_best_114 (by decide) ?_
                  exact g_ri hx hb hr hlocks dX5_best_116 (by rw [yBeR] <;> (first | done | rw [if_pos c_1] | rw [if_neg c_1] | rw [if_neg (by rw [c_1]; decide)] | skip) <;> (first | done | rw [if_pos c_2] | rw [if_neg c_2] | rw [if_neg (by rw [c_2]; decide)] | skip) <;> (first | done | rw [if_pos c_3] | rw [if_neg c_3] | rw [if_neg (by rw [c_3]; decide)] | skip) <;> (first | done | rw [if_pos c_4] | rw [if_neg c_4] | rw [if_neg (by rw [c_4]; decide)] | skip) <;> (first | done | rw [if_pos c_5] | rw [if_neg c_5] | rw [if_neg (by rw [c_5]; decide)] | skip) <;> (rw [fF_e he hx2] <;> rfl))
                · skip
                  have c_6 := gl_nle c_6
                  have hlt : i < N := gl_in hN (by omega) (by omega) c_6
                  refine lv_aload_n hx hb dX5_best_61 rfl (lv_at hl 0 rfl) ?_
                  refine lv_iload_n hx hb dX5_best_62 rfl (lv_at hl 1 rfl) ?_
                  refine lv_iload_n hx hb dX5_best_63 rfl (lv_at hl 3 rfl) ?_
                  refine lv_iload hx hb dX5_best_64 (lv_at hl 4 rfl) ?_
                  refine lv_iload hx hb dX5_best_66 (lv_at hl 6 rfl) ?_
                  refine g_rdV (As := [.int p, .int sp, .int wa, .int (nI i)]) (rest := []) (nL := 9) hx hb hml hown hts (c_X5_placeBy lz G a m p sp wa (nI i) hpl) gX5_best_X5_placeBy rfl h_X5_placeBy ⟨Nat.le_of_ble_eq_true rfl, Nat.le_of_ble_eq_true rfl⟩ hK hP (ci := 5) rfl rfl rfl rfl hl.1 rfl (Nat.le_of_ble_eq_true rfl) ⟨Nat.le_refl _, Nat.le_refl _⟩ dX5_best_68 ?_
                  refine lv_iload_n hx hb dX5_best_71 rfl (lv_at hl 2 rfl) ?_
                  refine lv_icmp_eq (tgt := 81) hx hb dX5_best_72 (by decide) (fun c_8 => ?_) (fun c_8 => ?_)
                  · skip
                    refine lv_iload hx hb dX5_best_81 (lv_at hl 5 rfl) ?_
                    refine lv_aload_n hx hb dX5_best_83 rfl (lv_at hl 0 rfl) ?_
                    refine va_get (D := G.1) (ci := 5) (v := .int m.loss) (C := RX5) (T := TX5) (N := 21) hx hb hts i_X5_best_X5 hown hK.1 hP 0 rfl rfl 3 (by decide) f17 (fun _ h9 => h9) rfl dX5_best_84 ?_
                    refine lv_iload_n hx hb dX5_best_87 rfl (lv_at hl 3 rfl) ?_
                    refine lv_iload hx hb dX5_best_88 (lv_at hl 6 rfl) ?_
                    refine lv_imul hx hb dX5_best_90 ?_
                    refine lv_aload_n hx hb dX5_best_91 rfl (lv_at hl 0 rfl) ?_
                    refine va_get (D := G.1) (ci := 5) (v := .int m.pl) (C := RX5) (T := TX5) (N := 21) hx hb hts i_X5_best_X5 hown hK.1 hP 0 rfl rfl 2 (by decide) f13 (fun _ h9 => h9) rfl dX5_best_92 ?_
                    refine lv_idiv hx hb dX5_best_95 hpl ?_
                    refine lv_imul hx hb dX5_best_96 ?_
                    refine lv_isub hx hb dX5_best_97 ?_
                    refine lv_istore (lv' := [(7, .int (lo - (m.loss * ((sp * (nI i)) / m.pl)))), (0, .ref (a 0)), (1, .int p), (2, .int q), (3, .int sp), (4, .int wa), (5, .int lo), (6, .int (nI i))]) hx hb dX5_best_98 hl (by decide) rfl (fun ls hl => ?_)
                    refine lv_iload hx hb dX5_best_100 (lv_at hl 7 rfl) ?_
                    refine lv_aload_n hx hb dX5_best_102 rfl (lv_at hl 1 rfl) ?_
                    refine va_get (D := G.1) (ci := 5) (v := .int m.pl) (C := RX5) (T := TX5) (N := 21) hx hb hts i_X5_best_X5 hown hK.1 hP 0 rfl rfl 2 (by decide) f13 (fun _ h9 => h9) rfl dX5_best_103 ?_
                    refine lv_icmp_eq (tgt := 114) hx hb dX5_best_106 (by decide) (fun c_9 => absurd (by rw [hN] at c_9; exact (nI_eq (by omega) (by omega)).mp c_9) (by omega)) (fun c_9 => ?_)
                    refine lv_iload hx hb dX5_best_109 (lv_at hl 0 rfl) ?_
                    refine lv_if_gt (tgt := 117) hx hb dX5_best_111 (by decide) (fun c_10 => ?_) (fun c_10 => ?_)
                    · skip
                      refine lv_iconst (v := 0) hx hb dX5_best_117 (by decide) ?_
                      refine lv_istore (lv' := [(8, .int 0), (7, .int (lo - (m.loss * ((sp * (nI i)) / m.pl)))), (0, .ref (a 0)), (1, .int p), (2, .int q), (3, .int sp), (4, .int wa), (5, .int lo), (6, .int (nI i))]) hx hb dX5_best_118 hl (by decide) rfl (fun ls hl => ?_)
                      have lp_120 : ∀ (fu_120 : Nat) (w : Nat), (w ≤ 100) → (firstF (fun w => decide (dLo m n (dSn m n q (nI w + nI i)) (nI w + nI i) < lo - m.loss * (sp * nI i / m.pl))) 100 0 = firstF (fun w => decide (dLo m n (dSn m n q (nI w + nI i)) (nI w + nI i) < lo - m.loss * (sp * nI i / m.pl))) (100 - w) w) → 100 - w < fu_120 → ∀ ls : Array Slot, lv_has ls 9 [(0, .ref (a 0)), (1, .int p), (2, .int q), (3, .int sp), (4, .int wa), (5, .int lo), (6, .int (nI i)), (7, .int (lo - (m.loss * ((sp * (nI i)) / m.pl)))), (8, .int (nI w))] → W pz lz ez (gRm 4) sz mz ([.ref (a 0), .int p, .int q, .int sp, .int wa, .int lo] : List Value).toArray bz tz cz sz.heap [] 0 0 (MQ bz (vp_Si (fun xx_ => xx_ = yBeR m n N p q sp wa lo)) ([.ref (a 0), .int p, .int q, .int sp, .int wa, .int lo] : List Value).toArray sz 0 0 (fun _ => False)) (F0 mz 120 ls []) := by
                        intro fu_120
                        induction fu_120 with
                        | zero =>
                          intro w hw hew hf_120
                          exact absurd hf_120 (Nat.not_lt_zero _)
                        | succ fu_120 ih_120 =>
                          intro w hw hew hf_120 ls hl
                          refine lv_iload hx hb dX5_best_120 (lv_at hl 8 rfl) ?_
                          refine lv_bipush (v := 99) hx hb dX5_best_122 (by decide) ?_
                          refine lv_icmp_gt (tgt := 160) hx hb dX5_best_124 (by decide) (fun c_11 => ?_) (fun c_11 => ?_)
                          · skip
                            have hwx : 100 ≤ w := gl_cx (k := 99) rfl (by decide) (by omega) c_11
                            refine lv_bipush (v := (-9)) hx hb dX5_best_160 (by decide) ?_
                            exact g_ri hx hb hr hlocks dX5_best_162 (by rw [yBeR] <;> (first | done | rw [if_pos c_1] | rw [if_neg c_1] | rw [if_neg (by rw [c_1]; decide)] | skip) <;> (first | done | rw [if_pos c_2] | rw [if_neg c_2] | rw [if_neg (by rw [c_2]; decide)] | skip) <;> (first | done | rw [if_pos c_3] | rw [if_neg c_3] | rw [if_neg (by rw [c_3]; decide)] | skip) <;> (first | done | rw [if_pos c_4] | rw [if_neg c_4] | rw [if_neg (by rw [c_4]; decide)] | skip) <;> (first | done | rw [if_pos c_5] | rw [if_neg c_5] | rw [if_neg (by rw [c_5]; decide)] | skip) <;> (rw [fF_y he hlt (by simp [c_8])] <;> (show _ = yBe2 m n q sp lo _; rw [yBe2, if_pos c_10]; exact oI_n (fF_e hew hwx))))
                          · skip
                            have hlw : w < 100 := Nat.lt_succ_of_le (gl_ci (k := 99) rfl (by decide) (by omega) c_11)
                            refine lv_iload hx hb dX5_best_127 (lv_at hl 7 rfl) ?_
                            refine lv_aload_n hx hb dX5_best_129 rfl (lv_at hl 0 rfl) ?_
                            refine lv_aload_n hx hb dX5_best_130 rfl (lv_at hl 0 rfl) ?_
                            refine lv_iload_n hx hb dX5_best_131 rfl (lv_at hl 2 rfl) ?_
                            refine lv_iload hx hb dX5_best_132 (lv_at hl 8 rfl) ?_
                            refine lv_iload hx hb dX5_best_134 (lv_at hl 6 rfl) ?_
                            refine lv_iadd hx hb dX5_best_136 ?_
                            refine g_rdV (As := [.int q, .int ((nI w) + (nI i))]) (rest := [.ref (a 0), .int (lo - (m.loss * ((sp * (nI i)) / m.pl)))]) (nL := 9) hx hb hml hown hts (c_X5_soundsOf lz G a m n q ((nI w) + (nI i)) hn hn8 hpl) gX5_best_X5_soundsOf rfl h_X5_soundsOf ⟨Nat.le_of_ble_eq_true rfl, Nat.le_of_ble_eq_true rfl⟩ hK hP (ci := 5) rfl rfl rfl rfl hl.1 rfl (Nat.le_of_ble_eq_true rfl) ⟨Nat.le_refl _, Nat.le_refl _⟩ dX5_best_137 ?_
                            refine lv_iload hx hb dX5_best_140 (lv_at hl 8 rfl) ?_
                            refine lv_iload hx hb dX5_best_142 (lv_at hl 6 rfl) ?_
                            refine lv_iadd hx hb dX5_best_144 ?_
                            refine g_rdV (As := [.int (dSn m n q ((nI w) + (nI i))), .int ((nI w) + (nI i))]) (rest := [.int (lo - (m.loss * ((sp * (nI i)) / m.pl)))]) (nL := 9) hx hb hml hown hts (c_X5_loudOf lz G a m n (dSn m n q ((nI w) + (nI i))) ((nI w) + (nI i)) hn hn8 hpl) gX5_best_X5_loudOf rfl h_X5_loudOf ⟨Nat.le_of_ble_eq_true rfl, Nat.le_of_ble_eq_true rfl⟩ hK hP (ci := 5) rfl rfl rfl rfl hl.1 rfl (Nat.le_of_ble_eq_true rfl) ⟨Nat.le_refl _, Nat.le_refl _⟩ dX5_best_145 ?_
                            refine lv_icmp_le (tgt := 154) hx hb dX5_best_148 (by decide) (fun c_12 => ?_) (fun c_12 => ?_)
                            · skip
                              have c_12 := gl_le c_12
                              refine lv_iinc (v := nI (w + 1)) (lv' := [(8, .int (nI (w + 1))), (0, .ref (a 0)), (1, .int p), (2, .int q), (3, .int sp), (4, .int wa), (5, .int lo), (6, .int (nI i)), (7, .int (lo - (m.loss * ((sp * (nI i)) / m.pl))))]) hx hb dX5_best_154 hl (k := 8) rfl (nI_1 w) (by decide) rfl (fun ls hl => ?_)
                              refine lv_goto (tgt := 120) hx hb dX5_best_157 (by decide) ?_
                              exact ih_120 (w + 1) hlw (fF_n hew hlw (by simp [c_12])) (by omega) ls (lv_sub hl [1, 2, 3, 4, 5, 6, 7, 8, 0] rfl)
                            · skip
                              have c_12 := gl_nle c_12
                              refine lv_iload hx hb dX5_best_151 (lv_at hl 8 rfl) ?_
                              exact g_ri hx hb hr hlocks dX5_best_153 (by rw [yBeR] <;> (first | done | rw [if_pos c_1] | rw [if_neg c_1] | rw [if_neg (by rw [c_1]; decide)] | skip) <;> (first | done | rw [if_pos c_2] | rw [if_neg c_2] | rw [if_neg (by rw [c_2]; decide)] | skip) <;> (first | done | rw [if_pos c_3] | rw [if_neg c_3] | rw [if_neg (by rw [c_3]; decide)] | skip) <;> (first | done | rw [if_pos c_4] | rw [if_neg c_4] | rw [if_neg (by rw [c_4]; decide)] | skip) <;> (first | done | rw [if_pos c_5] | rw [if_neg c_5] | rw [if_neg (by rw [c_5]; decide)] | skip) <;> (rw [fF_y he hlt (by simp [c_8])] <;> (show _ = yBe2 m n q sp lo _; rw [yBe2, if_pos c_10]; exact oI_s (fF_y hew hlw (by simp [c_12])))))
                      exact lp_120 ((100 - 0) + 1) 0 (Nat.zero_le _) rfl (Nat.lt_succ_self _) ls (lv_sub hl [2, 3, 4, 5, 6, 7, 8, 1, 0] rfl)
                    · skip
                      refine lv_bipush (v := (-9)) hx hb dX5_best_114 (by decide) ?_
                      exact g_ri hx hb hr hlocks dX5_best_116 (by rw [yBeR] <;> (first | done | rw [if_pos c_1] | rw [if_neg c_1] | rw [if_neg (by rw [c_1]; decide)] | skip) <;> (first | done | rw [if_pos c_2] | rw [if_neg c_2] | rw [if_neg (by rw [c_2]; decide)] | skip) <;> (first | done | rw [if_pos c_3] | rw [if_neg c_3] | rw [if_neg (by rw [c_3]; decide)] | skip) <;> (first | done | rw [if_pos c_4] | rw [if_neg c_4] | rw [if_neg (by rw [c_4]; decide)] | skip) <;> (first | done | rw [if_pos c_5] | rw [if_neg c_5] | rw [if_neg (by rw [c_5]; decide)] | skip) <;> (rw [fF_y he hlt (by simp [c_8])] <;> (first | done | (show _ = yBe2 m n q sp lo _; rw [yBe2, if_neg c_10]))))
                  · skip
                    refine lv_iinc (v := nI (i + 1)) (lv' := [(6, .int (nI (i + 1))), (0, .ref (a 0)), (1, .int p), (2, .int q), (3, .int sp), (4, .int wa), (5, .int lo)]) hx hb dX5_best_75 hl (k := 6) rfl (nI_1 i) (by decide) rfl (fun ls hl => ?_)
                    refine lv_goto (tgt := 52) hx hb dX5_best_78 (by decide) ?_
                    exact ih_52 (i + 1) hlt (fF_n he hlt (by simp [c_8])) (by omega) ls (lv_sub hl [1, 2, 3, 4, 5, 6, 0] rfl)
            exact lp_52 ((N - 0) + 1) 0 (Nat.zero_le _) rfl (Nat.lt_succ_self _) ls (lv_sub hl [1, 2, 3, 4, 5, 6, 0] rfl)
          · skip
            have c_5 := bI_0 c_5
            refine lv_iconst (v := (-1)) hx hb dX5_best_47 (by decide) ?_
            exact g_ri hx hb hr hlocks dX5_best_48 (by rw [yBeR] <;> (first | done | rw [if_pos c_1] | rw [if_neg c_1] | rw [if_neg (by rw [c_1]; decide)] | skip) <;> (first | done | rw [if_pos c_2] | rw [if_neg c_2] | rw [if_neg (by rw [c_2]; decide)] | skip) <;> (first | done | rw [if_pos c_3] | rw [if_neg c_3] | rw [if_neg (by rw [c_3]; decide)] | skip) <;> (first | done | rw [if_pos c_4] | rw [if_neg c_4] | rw [if_neg (by rw [c_4]; decide)] | skip) <;> (first | done | rw [if_pos c_5] | rw [if_neg c_5] | rw [if_neg (by rw [c_5]; decide)] | skip) <;> (first | done | rfl | (simp only [c_1, c_2, c_3, c_4, c_5]; rfl) | (simp [c_1, c_2, c_3, c_4, c_5, bI]; done)))

theorem h_X5_stills : yX5_stills.cls = RX5 ∧ yX5_stills.cls ≠ "java/lang/invoke/MethodHandle" ∧ yX5_stills.cls ≠ "java/lang/invoke/VarHandle" ∧ (parseMethodDescriptor yX5_stills.desc).map (fun d => d.parameters.length) = some 1 := by decide +kernel
set_option maxHeartbeats 4000000 in
set_option maxRecDepth 100000 in
theorem c_X5_stills (lz : Launch) (G : gG) (a : Nat → Nat) (m : MdS) (n : Nat) (s : Int32) (hn : m.st 1 = nI n) (hn8 : n ≤ 8) (hpl : ¬ m.pl = 0) : gRd lz yX5_stills wsX5_stills 4 G [.ref (a 0), .int s] (wMd a G.2.1 G.2.2.1 m) (yStR m n s) := by
  refine g_rd (by decide) rfl (Nat.le_of_ble_eq_true rfl) ?_
  intro pz ez sz mz bz tz cz hx hb hr hml hown hts hlocks hP hK ls hl
  have hl : lv_has ls 7 [(0, .ref (a 0)), (1, .int s)] := hl
  refine lv_aload_n hx hb dX5_stills_0 rfl (lv_at hl 0 rfl) ?_
  refine lv_iload_n hx hb dX5_stills_1 rfl (lv_at hl 1 rfl) ?_
  refine g_rdV (As := [.int s]) (rest := []) (nL := 7) hx hb hml hown hts (c_X5_isSaying lz G a m s) gX5_stills_X5_isSaying rfl h_X5_isSaying ⟨Nat.le_of_ble_eq_true rfl, Nat.le_of_ble_eq_true rfl⟩ hK hP (ci := 5) rfl rfl rfl rfl hl.1 rfl (Nat.le_of_ble_eq_true rfl) ⟨Nat.le_refl _, Nat.le_refl _⟩ dX5_stills_2 ?_
  refine lv_if_ne (tgt := 10) hx hb dX5_stills_5 (by decide) (fun c_1 => ?_) (fun c_1 => ?_)
  · skip
    have c_1 := bI_1 c_1
    obtain ⟨hj, hsj⟩ := wIn_nat hn hn8 c_1
    refine lv_aload_n hx hb dX5_stills_10 rfl (lv_at hl 0 rfl) ?_
    refine lv_iload_n hx hb dX5_stills_11 rfl (lv_at hl 1 rfl) ?_
    refine g_top (y := nI s.toNatClampNeg) (hsj) ?_
    refine lv_iconst (v := 0) hx hb dX5_stills_12 (by decide) ?_
    refine g_rdV (As := [.int (nI s.toNatClampNeg), .int 0]) (rest := []) (nL := 7) hx hb hml hown hts (c_X5_strengthOf lz G a m s.toNatClampNeg 0 (by omega) hpl) gX5_stills_X5_strengthOf rfl h_X5_strengthOf ⟨Nat.le_of_ble_eq_true rfl, Nat.le_of_ble_eq_true rfl⟩ hK hP (ci := 5) rfl rfl rfl rfl hl.1 rfl (Nat.le_of_ble_eq_true rfl) ⟨Nat.le_refl _, Nat.le_refl _⟩ dX5_stills_13 ?_
    refine lv_istore_n (lv' := [(2, .int (dSt m s.toNatClampNeg 0)), (0, .ref (a 0)), (1, .int s)]) hx hb dX5_stills_16 rfl hl (by decide) rfl (fun ls hl => ?_)
    refine lv_aload_n hx hb dX5_stills_17 rfl (lv_at hl 1 rfl) ?_
    refine lv_aload_n hx hb dX5_stills_18 rfl (lv_at hl 1 rfl) ?_
    refine lv_iload_n hx hb dX5_stills_19 rfl (lv_at hl 2 rfl) ?_
    refine g_top (y := nI s.toNatClampNeg) (hsj) ?_
    refine lv_iconst (v := 0) hx hb dX5_stills_20 (by decide) ?_
    refine g_rdV (As := [.int (nI s.toNatClampNeg), .int 0]) (rest := [.ref (a 0)]) (nL := 7) hx hb hml hown hts (c_X5_placeOf lz G a m s.toNatClampNeg 0 (by omega) hpl) gX5_stills_X5_placeOf rfl h_X5_placeOf ⟨Nat.le_of_ble_eq_true rfl, Nat.le_of_ble_eq_true rfl⟩ hK hP (ci := 5) rfl rfl rfl rfl hl.1 rfl (Nat.le_of_ble_eq_true rfl) ⟨Nat.le_refl _, Nat.le_refl _⟩ dX5_stills_21 ?_
    refine lv_iconst (v := 0) hx hb dX5_stills_24 (by decide) ?_
    refine g_rdV (As := [.int (dPl m s.toNatClampNeg 0), .int 0]) (rest := []) (nL := 7) hx hb hml hown hts (c_X5_soundsOf lz G a m n (dPl m s.toNatClampNeg 0) 0 hn hn8 hpl) gX5_stills_X5_soundsOf rfl h_X5_soundsOf ⟨Nat.le_of_ble_eq_true rfl, Nat.le_of_ble_eq_true rfl⟩ hK hP (ci := 5) rfl rfl rfl rfl hl.1 rfl (Nat.le_of_ble_eq_true rfl) ⟨Nat.le_refl _, Nat.le_refl _⟩ dX5_stills_25 ?_
    refine lv_iconst (v := 1) hx hb dX5_stills_28 (by decide) ?_
    refine lv_iload_n hx hb dX5_stills_29 rfl (lv_at hl 2 rfl) ?_
    refine lv_ishl hx hb dX5_stills_30 ?_
    refine lv_iconst (v := (-1)) hx hb dX5_stills_31 (by decide) ?_
    refine lv_ixor hx hb dX5_stills_32 ?_
    refine lv_iand hx hb dX5_stills_33 ?_
    refine g_top (y := dOth m n s.toNatClampNeg) (by rw [dOth, ← hsj]) ?_
    obtain ⟨O, hO8, hO⟩ := dOth_nat m n s.toNatClampNeg hn8
    refine lv_istore_n (lv' := [(3, .int (dOth m n s.toNatClampNeg)), (2, .int (dSt m s.toNatClampNeg 0)), (0, .ref (a 0)), (1, .int s)]) hx hb dX5_stills_34 rfl hl (by decide) rfl (fun ls hl => ?_)
    refine lv_iload_n hx hb dX5_stills_35 rfl (lv_at hl 0 rfl) ?_
    refine lv_istore (lv' := [(4, .int (dOth m n s.toNatClampNeg)), (3, .int (dOth m n s.toNatClampNeg)), (2, .int (dSt m s.toNatClampNeg 0)), (0, .ref (a 0)), (1, .int s)]) hx hb dX5_stills_36 hl (by decide) rfl (fun ls hl => ?_)
    refine lv_iload_n hx hb dX5_stills_38 rfl (lv_at hl 1 rfl) ?_
    refine g_top (y := nI (O + 1) - 1) (by rw [hO]; exact (nI_pred O).symm) ?_
    refine lv_istore (lv' := [(5, .int (nI (O + 1) - 1)), (4, .int (dOth m n s.toNatClampNeg)), (3, .int (dOth m n s.toNatClampNeg)), (2, .int (dSt m s.toNatClampNeg 0)), (0, .ref (a 0)), (1, .int s)]) hx hb dX5_stills_39 hl (by decide) rfl (fun ls hl => ?_)
    have lp_41 : ∀ (fu_41 : Nat) (j : Nat) (x : Int32), (j ≤ O + 1) → (x = dFew m n s.toNatClampNeg (O + 1) j) → j < fu_41 → ∀ ls : Array Slot, lv_has ls 7 [(0, .ref (a 0)), (1, .int s), (2, .int (dSt m s.toNatClampNeg 0)), (3, .int (dOth m n s.toNatClampNeg)), (4, .int x), (5, .int (nI j - 1))] → W pz lz ez (gRm 4) sz mz ([.ref (a 0), .int s] : List Value).toArray bz tz cz sz.heap [] 0 0 (MQ bz (vp_Si (fun xx_ => xx_ = yStR m n s)) ([.ref (a 0), .int s] : List Value).toArray sz 0 0 (fun _ => False)) (F0 mz 41 ls []) := by
      intro fu_41
      induction fu_41 with
      | zero =>
        intro j x hj0 hac hf_41
        exact absurd hf_41 (Nat.not_lt_zero _)
      | succ fu_41 ih_41 =>
        intro j x hj0 hac hf_41 ls hl
        refine lv_iload hx hb dX5_stills_41 (lv_at hl 5 rfl) ?_
        refine lv_if_lt (tgt := 110) hx hb dX5_stills_43 (by decide) (fun c_2 => ?_) (fun c_2 => ?_)
        · skip
          have hx2 : j = 0 := gl_d0 c_2 (by omega)
          refine lv_iload_n hx hb dX5_stills_110 rfl (lv_at hl 2 rfl) ?_
          refine lv_if_ne (tgt := 119) hx hb dX5_stills_111 (by decide) (fun c_3 => ?_) (fun c_3 => ?_)
          · skip
            refine lv_iload hx hb dX5_stills_119 (lv_at hl 4 rfl) ?_
            exact g_ri hx hb hr hlocks dX5_stills_121 (by rw [yStR] <;> (first | done | rw [if_pos c_1] | rw [if_neg c_1] | rw [if_neg (by rw [c_1]; decide)] | skip) <;> (first | done | rw [if_pos c_2] | rw [if_neg c_2] | rw [if_neg (by rw [c_2]; decide)] | skip) <;> (first | done | rw [if_pos c_3] | rw [if_neg c_3] | rw [if_neg (by rw [c_3]; decide)] | skip) <;> (first | done | rfl | (rw [hac, hx2, show (dOth m n s.toNatClampNeg).toNatClampNeg = O from by rw [hO]; exact nI_clamp (by omega)])))
          · skip
            refine lv_bipush (v := (-9)) hx hb dX5_stills_114 (by decide) ?_
            refine lv_goto (tgt := 121) hx hb dX5_stills_116 (by decide) ?_
            exact g_ri hx hb hr hlocks dX5_stills_121 (by rw [yStR] <;> (first | done | rw [if_pos c_1] | rw [if_neg c_1] | rw [if_neg (by rw [c_1]; decide)] | skip) <;> (first | done | rw [if_pos c_2] | rw [if_neg c_2] | rw [if_neg (by rw [c_2]; decide)] | skip) <;> (first | done | rw [if_pos c_3] | rw [if_neg c_3] | rw [if_neg (by rw [c_3]; decide)] | skip) <;> (first | done | rfl | (rw [hac, hx2, show (dOth m n s.toNatClampNeg).toNatClampNeg = O from by rw [hO]; exact nI_clamp (by omega)])))
        · skip
          have hj1 : 1 ≤ j := gl_d1 c_2
          refine lv_iload hx hb dX5_stills_46 (lv_at hl 5 rfl) ?_
          refine g_top (y := nI (j - 1)) (gl_dj hj1) ?_
          refine lv_iload_n hx hb dX5_stills_48 rfl (lv_at hl 3 rfl) ?_
          refine lv_iconst (v := (-1)) hx hb dX5_stills_49 (by decide) ?_
          refine lv_ixor hx hb dX5_stills_50 ?_
          refine lv_iand hx hb dX5_stills_51 ?_
          refine lv_if_ne (tgt := 72) hx hb dX5_stills_52 (by decide) (fun c_4 => ?_) (fun c_4 => ?_)
          · skip
            refine lv_iconst (v := 0) hx hb dX5_stills_72 (by decide) ?_
            refine lv_istore (lv' := [(6, .int 0), (0, .ref (a 0)), (1, .int s), (2, .int (dSt m s.toNatClampNeg 0)), (3, .int (dOth m n s.toNatClampNeg)), (4, .int x), (5, .int (nI j - 1))]) hx hb dX5_stills_73 hl (by decide) rfl (fun ls hl => ?_)
            refine lv_iload hx hb dX5_stills_75 (lv_at hl 0 rfl) ?_
            refine lv_if_eq (tgt := 100) hx hb dX5_stills_77 (by decide) (fun c_5 => ?_) (fun c_5 => False.elim (by revert c_5; decide))
            refine lv_iload hx hb dX5_stills_100 (lv_at hl 5 rfl) ?_
            refine lv_istore (lv' := [(4, .int x), (6, .int 0), (0, .ref (a 0)), (1, .int s), (2, .int (dSt m s.toNatClampNeg 0)), (3, .int (dOth m n s.toNatClampNeg)), (5, .int (nI j - 1))]) hx hb dX5_stills_102 hl (by decide) rfl (fun ls hl => ?_)
            refine lv_iinc (v := nI (j - 1) - 1) (lv' := [(5, .int (nI (j - 1) - 1)), (4, .int x), (6, .int 0), (0, .ref (a 0)), (1, .int s), (2, .int (dSt m s.toNatClampNeg 0)), (3, .int (dOth m n s.toNatClampNeg))]) hx hb dX5_stills_104 hl (k := 6) rfl (gl_di hj1) (by decide) rfl (fun ls hl => ?_)
            refine lv_goto (tgt := 41) hx hb dX5_stills_107 (by decide) ?_
            exact ih_41 (j - 1) x (by omega) (by rw [dFew_s hj1 (by omega), ← hac]; (first | rw [if_pos c_4] | rw [if_neg c_4])) (by omega) ls (lv_sub hl [3, 4, 5, 6, 1, 0] rfl)
          · skip
            refine lv_iload hx hb dX5_stills_55 (lv_at hl 5 rfl) ?_
            refine g_top (y := nI (j - 1)) (gl_dj hj1) ?_
            refine g_rdS (As := [.int (nI (j - 1))]) (rest := []) (nL := 7) hx hb hml hown hts (c_X5_bits lz G (nI (j - 1))) gX5_stills_X5_bits rfl h_X5_bits ⟨Nat.le_of_ble_eq_true rfl, Nat.le_of_ble_eq_true rfl⟩ hK gP_nil rfl hl.1 rfl (Nat.le_of_ble_eq_true rfl) ⟨Nat.le_refl _, Nat.le_refl _⟩ dX5_stills_57 ?_
            refine lv_iload hx hb dX5_stills_60 (lv_at hl 4 rfl) ?_
            refine g_rdS (As := [.int x]) (rest := [.int (bitsK (nI (j - 1)))]) (nL := 7) hx hb hml hown hts (c_X5_bits lz G x) gX5_stills_X5_bits rfl h_X5_bits ⟨Nat.le_of_ble_eq_true rfl, Nat.le_of_ble_eq_true rfl⟩ hK gP_nil rfl hl.1 rfl (Nat.le_of_ble_eq_true rfl) ⟨Nat.le_refl _, Nat.le_refl _⟩ dX5_stills_62 ?_
            refine lv_icmp_gt (tgt := 72) hx hb dX5_stills_65 (by decide) (fun c_6 => ?_) (fun c_6 => ?_)
            · skip
              refine lv_iconst (v := 0) hx hb dX5_stills_72 (by decide) ?_
              refine lv_istore (lv' := [(6, .int 0), (0, .ref (a 0)), (1, .int s), (2, .int (dSt m s.toNatClampNeg 0)), (3, .int (dOth m n s.toNatClampNeg)), (4, .int x), (5, .int (nI j - 1))]) hx hb dX5_stills_73 hl (by decide) rfl (fun ls hl => ?_)
              refine lv_iload hx hb dX5_stills_75 (lv_at hl 0 rfl) ?_
              refine lv_if_eq (tgt := 100) hx hb dX5_stills_77 (by decide) (fun c_7 => ?_) (fun c_7 => False.elim (by revert c_7; decide))
              refine lv_iload hx hb dX5_stills_100 (lv_at hl 5 rfl) ?_
              refine lv_istore (lv' := [(4, .int x), (6, .int 0), (0, .ref (a 0)), (1, .int s), (2, .int (dSt m s.toNatClampNeg 0)), (3, .int (dOth m n s.toNatClampNeg)), (5, .int (nI j - 1))]) hx hb dX5_stills_102 hl (by decide) rfl (fun ls hl => ?_)
              refine lv_iinc (v := nI (j - 1) - 1) (lv' := [(5, .int (nI (j - 1) - 1)), (4, .int x), (6, .int 0), (0, .ref (a 0)), (1, .int s), (2, .int (dSt m s.toNatClampNeg 0)), (3, .int (dOth m n s.toNatClampNeg))]) hx hb dX5_stills_104 hl (k := 6) rfl (gl_di hj1) (by decide) rfl (fun ls hl => ?_)
              refine lv_goto (tgt := 41) hx hb dX5_stills_107 (by decide) ?_
              exact ih_41 (j - 1) x (by omega) (by rw [dFew_s hj1 (by omega), ← hac]; (first | rw [if_pos c_4] | rw [if_neg c_4]) ; (first | rw [if_pos c_6] | rw [if_neg c_6])) (by omega) ls (lv_sub hl [3, 4, 5, 6, 1, 0] rfl)
            · skip
              refine lv_iconst (v := 1) hx hb dX5_stills_68 (by decide) ?_
              refine lv_goto (tgt := 73) hx hb dX5_stills_69 (by decide) ?_
              refine lv_istore (lv' := [(6, .int 1), (0, .ref (a 0)), (1, .int s), (2, .int (dSt m s.toNatClampNeg 0)), (3, .int (dOth m n s.toNatClampNeg)), (4, .int x), (5, .int (nI j - 1))]) hx hb dX5_stills_73 hl (by decide) rfl (fun ls hl => ?_)
              refine lv_iload hx hb dX5_stills_75 (lv_at hl 0 rfl) ?_
              refine lv_if_eq (tgt := 100) hx hb dX5_stills_77 (by decide) (fun c_8 => False.elim (by revert c_8; decide)) (fun c_8 => ?_)
              refine lv_iload_n hx hb dX5_stills_80 rfl (lv_at hl 3 rfl) ?_
              refine lv_aload_n hx hb dX5_stills_81 rfl (lv_at hl 1 rfl) ?_
              refine lv_iload_n hx hb dX5_stills_82 rfl (lv_at hl 4 rfl) ?_
              refine lv_iload hx hb dX5_stills_83 (lv_at hl 6 rfl) ?_
              refine g_top (y := nI (j - 1)) (gl_dj hj1) ?_
              refine lv_iconst (v := (-1)) hx hb dX5_stills_85 (by decide) ?_
              refine lv_ixor hx hb dX5_stills_86 ?_
              refine lv_iand hx hb dX5_stills_87 ?_
              refine lv_iconst (v := 0) hx hb dX5_stills_88 (by decide) ?_
              refine g_rdV (As := [.int ((dOth m n s.toNatClampNeg) &&& ((nI (j - 1)) ^^^ (-1))), .int 0]) (rest := [.int (dSt m s.toNatClampNeg 0)]) (nL := 7) hx hb hml hown hts (c_X5_loudOf lz G a m n ((dOth m n s.toNatClampNeg) &&& ((nI (j - 1)) ^^^ (-1))) 0 hn hn8 hpl) gX5_stills_X5_loudOf rfl h_X5_loudOf ⟨Nat.le_of_ble_eq_true rfl, Nat.le_of_ble_eq_true rfl⟩ hK hP (ci := 5) rfl rfl rfl rfl hl.1 rfl (Nat.le_of_ble_eq_true rfl) ⟨Nat.le_refl _, Nat.le_refl _⟩ dX5_stills_89 ?_
              refine lv_icmp_le (tgt := 100) hx hb dX5_stills_92 (by decide) (fun c_9 => ?_) (fun c_9 => ?_)
              · skip
                have c_9 := gl_le c_9
                refine lv_iload hx hb dX5_stills_100 (lv_at hl 5 rfl) ?_
                refine lv_istore (lv' := [(4, .int x), (6, .int 1), (0, .ref (a 0)), (1, .int s), (2, .int (dSt m s.toNatClampNeg 0)), (3, .int (dOth m n s.toNatClampNeg)), (5, .int (nI j - 1))]) hx hb dX5_stills_102 hl (by decide) rfl (fun ls hl => ?_)
                refine lv_iinc (v := nI (j - 1) - 1) (lv' := [(5, .int (nI (j - 1) - 1)), (4, .int x), (6, .int 1), (0, .ref (a 0)), (1, .int s), (2, .int (dSt m s.toNatClampNeg 0)), (3, .int (dOth m n s.toNatClampNeg))]) hx hb dX5_stills_104 hl (k := 6) rfl (gl_di hj1) (by decide) rfl (fun ls hl => ?_)
                refine lv_goto (tgt := 41) hx hb dX5_stills_107 (by decide) ?_
                exact ih_41 (j - 1) x (by omega) (by rw [dFew_s hj1 (by omega), ← hac]; (first | rw [if_pos c_4] | rw [if_neg c_4]) ; (first | rw [if_pos c_6] | rw [if_neg c_6]) ; (first | rw [if_pos c_9] | rw [if_neg c_9])) (by omega) ls (lv_sub hl [3, 4, 5, 6, 1, 0] rfl)
              · skip
                have c_9 := gl_nle c_9
                refine lv_iload hx hb dX5_stills_95 (lv_at hl 6 rfl) ?_
                refine g_top (y := nI (j - 1)) (gl_dj hj1) ?_
                refine lv_goto (tgt := 102) hx hb dX5_stills_97 (by decide) ?_
                refine lv_istore (lv' := [(4, .int (nI (j - 1))), (6, .int 1), (0, .ref (a 0)), (1, .int s), (2, .int (dSt m s.toNatClampNeg 0)), (3, .int (dOth m n s.toNatClampNeg)), (5, .int (nI j - 1))]) hx hb dX5_stills_102 hl (by decide) rfl (fun ls hl => ?_)
                refine lv_iinc (v := nI (j - 1) - 1) (lv' := [(5, .int (nI (j - 1) - 1)), (4, .int (nI (j - 1))), (6, .int 1), (0, .ref (a 0)), (1, .int s), (2, .int (dSt m s.toNatClampNeg 0)), (3, .int (dOth m n s.toNatClampNeg))]) hx hb dX5_stills_104 hl (k := 6) rfl (gl_di hj1) (by decide) rfl (fun ls hl => ?_)
                refine lv_goto (tgt := 41) hx hb dX5_stills_107 (by decide) ?_
                exact ih_41 (j - 1) (nI (j - 1)) (by omega) (by rw [dFew_s hj1 (by omega), ← hac]; (first | rw [if_pos c_4] | rw [if_neg c_4]) ; (first | rw [if_pos c_6] | rw [if_neg c_6]) ; (first | rw [if_pos c_9] | rw [if_neg c_9])) (by omega) ls (lv_sub hl [3, 4, 5, 6, 1, 0] rfl)
    exact lp_41 ((O + 1) + 1) (O + 1) (dOth m n s.toNatClampNeg) (Nat.le_refl _) (by rw [dFew, Nat.sub_self]; rfl) (Nat.lt_succ_self _) ls (lv_sub hl [4, 5, 3, 2, 1, 0] rfl)
  · skip
    have c_1 := bI_0 c_1
    refine lv_iconst (v := (-1)) hx hb dX5_stills_8 (by decide) ?_
    exact g_ri hx hb hr hlocks dX5_stills_9 (by rw [yStR] <;> (first | done | rw [if_pos c_1] | rw [if_neg c_1] | rw [if_neg (by rw [c_1]; decide)] | skip) <;> (first | done | rfl | (simp only [c_1]; rfl) | (simp [c_1, bI]; done)))
