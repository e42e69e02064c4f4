theorem sh_pow {k : Nat} (h : k ≤ 6) : (1 : Int32) <<< (nI k &&& 31) = nI (2 ^ k) := by
  have hk : ∀ k : Fin 7, (1 : Int32) <<< (nI k.val &&& 31) = nI (2 ^ k.val) := by decide
  exact hk ⟨k, by omega⟩
def prD (x b : Int32) : Nat → Int32
  | 0 => 1
  | k + 1 => prD x b k * (if hasB b (nI k) then x else 10 - x)
def upS (m : MdS) (its nn x : Int32) : Nat → Int32
  | 0 => 0
  | i + 1 => upS m its nn x i + (if 0 < its - m.loss * (nn + bitsK (nI i)) then prD x (nI i) nn.toNatClampNeg else 0)
def alS (x : Int32) (Q : Nat) : Nat → Int32
  | 0 => 0
  | i + 1 => alS x Q i + prD x (nI i) Q
def yOdD (m : MdS) (s nn x : Int32) : Int32 := gcL ((alS x nn.toNatClampNeg (2 ^ nn.toNatClampNeg)).toNatClampNeg + 1) (upS m (dSt m s.toNatClampNeg 0) nn x (2 ^ nn.toNatClampNeg)) (alS x nn.toNatClampNeg (2 ^ nn.toNatClampNeg))
def yOdR (m : MdS) (s nn x what : Int32) : Int32 := if wIn s 0 (m.st 1 - 1) then (if wIn nn 0 6 then (if wIn x 0 10 then (if wIn what 0 1 then (if what = 0 then upS m (dSt m s.toNatClampNeg 0) nn x (2 ^ nn.toNatClampNeg) / yOdD m s nn x else alS x nn.toNatClampNeg (2 ^ nn.toNatClampNeg) / yOdD m s nn x) else -1) else -1) else -1) else -1
def yHeH (m : MdS) (k : Nat) (p nn th : Int32) : Nat → Int32 := if wIn p 0 (m.pl - 1) then (if wIn nn 0 99 then (if wIn th 0 1 then (if m.hm = 6 then m.heard else upd (upd (upd m.heard (3 * k) p) (3 * k + 1) nn) (3 * k + 2) th) else m.heard) else m.heard) else m.heard
def yHeM (m : MdS) (k : Nat) (p nn th : Int32) : Int32 := if wIn p 0 (m.pl - 1) then (if wIn nn 0 99 then (if wIn th 0 1 then (if m.hm = 6 then m.hm else nI (k + 1)) else m.hm) else m.hm) else m.hm
def yHeR (m : MdS) (k : Nat) (p nn th : Int32) : Int32 := if wIn p 0 (m.pl - 1) then (if wIn nn 0 99 then (if wIn th 0 1 then (if m.hm = 6 then -3 else nI (k + 1)) else -1) else -1) else -1
def gmS (g : Int32) : Int32 := (g / 2 - g / 2 / 6 * 6) + 1
def dGa (m : MdS) (g t : Int32) : Int32 := dBy m (g / 12) (gmS g) (g - g / 2 * 2) t
def dFit (m : MdS) (k : Nat) (g : Int32) : Bool := allOf (fun i => decide (dGa m g (m.heard (3 * i + 1)) = m.heard (3 * i)) == decide (m.heard (3 * i + 2) = 1)) k
def guM : Option Nat → Int32
  | some g => 100 * (nI g / 12) + 10 * gmS (nI g) + (nI g - nI g / 2 * 2)
  | none => -9
theorem gD_y {q : Nat → Bool} {N j : Nat} (h1 : 1 ≤ j) (h2 : j ≤ N) (h : q (j - 1) = true) : 100 * (nI (j - 1) / 12) + 10 * ((nI (j - 1) / 2 - nI (j - 1) / 2 / 6 * 6) + 1) + (nI (j - 1) - nI (j - 1) / 2 * 2) = guM (firstF q (N - (j - 1)) (j - 1)) := by
  rw [show N - (j - 1) = (N - j) + 1 by omega, firstF, if_pos h]
  rfl
theorem gD_n {q : Nat → Bool} {N j : Nat} {x : Int32} (h1 : 1 ≤ j) (h2 : j ≤ N) (hx : x = guM (firstF q (N - j) j)) (h : q (j - 1) = false) : x = guM (firstF q (N - (j - 1)) (j - 1)) := by
  rw [show N - (j - 1) = (N - j) + 1 by omega, firstF, if_neg (by rw [h]; decide), show j - 1 + 1 = j by omega]
  exact hx
def yGuR (m : MdS) (k N : Nat) (what : Int32) : Int32 := if wIn what 0 1 then (if what = 0 then nI (cF (fun g => dFit m k (nI g)) (12 * N - 0) 0) else guM (firstF (fun g => dFit m k (nI g)) (12 * N - 0) 0)) else -1
def amT (m : MdS) (k N : Nat) (nn : Int32) (p : Nat) : Nat := cntOf (fun g => dFit m k (nI g) && decide (dGa m (nI g) nn = nI p)) (12 * N)
def amL (m : MdS) (k N : Nat) (nn al : Int32) : Nat → Int32 × Int32
  | 0 => (al, -9)
  | p + 1 => if al - nI (amT m k N nn p) < nI (amT m k N nn p) then (if nI (amT m k N nn p) < (amL m k N nn al p).1 then (nI (amT m k N nn p), nI p) else amL m k N nn al p) else (if al - nI (amT m k N nn p) < (amL m k N nn al p).1 then (al - nI (amT m k N nn p), nI p) else amL m k N nn al p)
def yAsR (m : MdS) (k N : Nat) (nn : Int32) : Int32 := if wIn nn 0 99 then (amL m k N nn (yGuR m k N 0) N).2 else -1
def yMaT (m : MdS) (kd s : Int32) : Int64 := if wIn kd 0 5 then (if wIn s 0 (m.st 1 - 1) then (if kd = 1 then m.trail + 1 + 10 else if kd = 2 then m.trail + 1 + 100 else if kd = 3 then m.trail + 1 + 1010 else if kd = 4 then m.trail + 1 + 10100 else if kd = 5 then m.trail + 1 + 100000 else m.trail + 1) else m.trail) else m.trail
def yMaR (m : MdS) (kd s : Int32) : Int32 := if wIn kd 0 5 then (if wIn s 0 (m.st 1 - 1) then (if kd = 1 then m.st (26 + s.toNatClampNeg) + dSt m s.toNatClampNeg 0 else if kd = 2 then m.st (26 + s.toNatClampNeg) - m.st (10 + s.toNatClampNeg) else if kd = 3 then 2 * (m.st (26 + s.toNatClampNeg) + dSt m s.toNatClampNeg 0) else if kd = 4 then m.st (26 + s.toNatClampNeg) - m.st (10 + s.toNatClampNeg) + s else if kd = 5 then m.st (26 + s.toNatClampNeg) + dPl m s.toNatClampNeg 0 else m.st (26 + s.toNatClampNeg)) else -1000000) else -1000000
def yKeI (m : MdS) (im : Int32) : Nat → Int32 := if wIn im 0 1 then va_cpy m.book (va_cpy m.st (upd m.imgs (551 * im.toNatClampNeg) m.undos) 0 (551 * im.toNatClampNeg + 1) 50) 0 (551 * im.toNatClampNeg + 1 + 50) 500 else m.imgs
def yKeK (m : MdS) (im : Int32) : Nat → Int32 := if wIn im 0 1 then upd m.kept im.toNatClampNeg 1 else m.kept
def yBaSt (m : MdS) (im : Int32) : Nat → Int32 := if wIn im 0 1 then (if m.kept im.toNatClampNeg = 0 then m.st else va_cpy m.imgs m.st (551 * im.toNatClampNeg + 1) 0 50) else m.st
def yBaB (m : MdS) (im : Int32) : Nat → Int32 := if wIn im 0 1 then (if m.kept im.toNatClampNeg = 0 then m.book else va_cpy m.imgs m.book (551 * im.toNatClampNeg + 1 + 50) 0 500) else m.book
def yBaU (m : MdS) (im : Int32) : Int32 := if wIn im 0 1 then (if m.kept im.toNatClampNeg = 0 then m.undos else m.imgs (551 * im.toNatClampNeg)) else m.undos
def yBaR (m : MdS) (im : Int32) : Int32 := if wIn im 0 1 then (if m.kept im.toNatClampNeg = 0 then -2 else va_cpy m.imgs m.st (551 * im.toNatClampNeg + 1) 0 50 0) else -1
def yCoR (m : MdS) (what : Int32) : Int32 := if what = 0 then m.pl else if what = 1 then m.st 1 else if what = 2 then m.loss else if what = 3 then bitsK m.nich else if what = 4 then m.hm else if what = 5 then m.undos else if what = 6 then m.len else -1
theorem i_X5_odds_X5 : ∀ w ∈ wsX50, w ∈ wsX5_odds := by decide +kernel
theorem h_X5_odds : yX5_odds.cls = RX5 ∧ yX5_odds.cls ≠ "java/lang/invoke/MethodHandle" ∧ yX5_odds.cls ≠ "java/lang/invoke/VarHandle" ∧ (parseMethodDescriptor yX5_odds.desc).map (fun d => d.parameters.length) = some 4 := by decide +kernel
set_option maxHeartbeats 4000000 in
set_option maxRecDepth 100000 in
theorem c_X5_odds (lz : Launch) (G : gG) (a : Nat → Nat) (m : MdS) (n : Nat) (s nn x what : Int32) (hn : m.st 1 = nI n) (hn8 : n ≤ 8) (hpl : ¬ m.pl = 0) (hd : wIn s 0 (m.st 1 - 1) = true → wIn nn 0 6 = true → wIn x 0 10 = true → ¬ yOdD m s nn x = 0) : gRd lz yX5_odds wsX5_odds 3 G [.ref (a 0), .int s, .int nn, .int x, .int what] (wMd a G.2.1 G.2.2.1 m) (yOdR m s nn x what) := by
  refine g_rd (by decide) rfl (Nat.le_of_ble_eq_true rfl) ?_
  intro pz ez sz mz bz tz cz hx hb hr hml hown hts hlocks hP hK ls hl
  have hl : lv_has ls 11 [(0, .ref (a 0)), (1, .int s), (2, .int nn), (3, .int x), (4, .int what)] := hl
  have f17 := hts (.fieldLink RX5 17 "WhisperRingModel" "loss" "I") (by decide +kernel)
  have h64 : nn.toNatClampNeg ≤ 6 → 2 ^ nn.toNatClampNeg ≤ 64 := fun h => Nat.pow_le_pow_right (by omega) h
  refine lv_aload_n hx hb dX5_odds_0 rfl (lv_at hl 0 rfl) ?_
  refine lv_iload_n hx hb dX5_odds_1 rfl (lv_at hl 1 rfl) ?_
  refine g_rdV (As := [.int s]) (rest := []) (nL := 11) hx hb hml hown hts (c_X5_isSaying lz G a m s) gX5_odds_X5_isSaying rfl h_X5_isSaying ⟨Nat.le_of_ble_eq_true rfl, Nat.le_of_ble_eq_true rfl⟩ hK hP (ci := 5) rfl rfl rfl rfl hl.1 rfl (Nat.le_of_ble_eq_true rfl) ⟨Nat.le_refl _, Nat.le_refl _⟩ dX5_odds_2 ?_
  refine lv_if_eq (tgt := 38) hx hb dX5_odds_5 (by decide) (fun c_1 => ?_) (fun c_1 => ?_)
  · skip
    have c_1 := bI_0 c_1
    refine lv_iconst (v := (-1)) hx hb dX5_odds_38 (by decide) ?_
    exact g_ri hx hb hr hlocks dX5_odds_39 (by rw [yOdR] <;> (first | done | rw [if_pos c_1] | rw [if_neg c_1] | rw [if_neg (by rw [c_1]; decide)] | skip) <;> (first | done | rfl | (simp only [c_1]; rfl) | (simp [c_1, bI]; done)))
  · skip
    have c_1 := bI_1 c_1
    obtain ⟨hj, hsj⟩ := wIn_nat hn hn8 c_1
    have hd := hd c_1
    refine lv_iload_n hx hb dX5_odds_8 rfl (lv_at hl 2 rfl) ?_
    refine lv_iconst (v := 0) hx hb dX5_odds_9 (by decide) ?_
    refine lv_bipush (v := 6) hx hb dX5_odds_10 (by decide) ?_
    refine g_rdS (As := [.int nn, .int 0, .int 6]) (rest := []) (nL := 11) hx hb hml hown hts (c_X5_in lz G nn 0 6) gX5_odds_X5_in rfl h_X5_in ⟨Nat.le_of_ble_eq_true rfl, Nat.le_of_ble_eq_true rfl⟩ hK gP_nil rfl hl.1 rfl (Nat.le_of_ble_eq_true rfl) ⟨Nat.le_refl _, Nat.le_refl _⟩ dX5_odds_12 ?_
    refine lv_if_eq (tgt := 38) hx hb dX5_odds_15 (by decide) (fun c_2 => ?_) (fun c_2 => ?_)
    · skip
      have c_2 := bI_0 c_2
      refine lv_iconst (v := (-1)) hx hb dX5_odds_38 (by decide) ?_
      exact g_ri hx hb hr hlocks dX5_odds_39 (by rw [yOdR] <;> (first | done | rw [if_pos c_1] | rw [if_neg c_1] | rw [if_neg (by rw [c_1]; decide)] | skip) <;> (first | done | rw [if_pos c_2] | rw [if_neg c_2] | rw [if_neg (by rw [c_2]; decide)] | skip) <;> (first | done | rfl | (simp only [c_1, c_2]; rfl) | (simp [c_1, c_2, bI]; done)))
    · skip
      have c_2 := bI_1 c_2
      obtain ⟨hq6, hq⟩ := wIn_nn (k := 6) (by decide) c_2
      have h64 := h64 hq6
      have hd := hd c_2
      refine lv_iload_n hx hb dX5_odds_18 rfl (lv_at hl 3 rfl) ?_
      refine lv_iconst (v := 0) hx hb dX5_odds_19 (by decide) ?_
      refine lv_bipush (v := 10) hx hb dX5_odds_20 (by decide) ?_
      refine g_rdS (As := [.int x, .int 0, .int 10]) (rest := []) (nL := 11) hx hb hml hown hts (c_X5_in lz G x 0 10) gX5_odds_X5_in rfl h_X5_in ⟨Nat.le_of_ble_eq_true rfl, Nat.le_of_ble_eq_true rfl⟩ hK gP_nil rfl hl.1 rfl (Nat.le_of_ble_eq_true rfl) ⟨Nat.le_refl _, Nat.le_refl _⟩ dX5_odds_22 ?_
      refine lv_if_eq (tgt := 38) hx hb dX5_odds_25 (by decide) (fun c_3 => ?_) (fun c_3 => ?_)
      · skip
        have c_3 := bI_0 c_3
        refine lv_iconst (v := (-1)) hx hb dX5_odds_38 (by decide) ?_
        exact g_ri hx hb hr hlocks dX5_odds_39 (by rw [yOdR] <;> (first | done | rw [if_pos c_1] | rw [if_neg c_1] | rw [if_neg (by rw [c_1]; decide)] | skip) <;> (first | done | rw [if_pos c_2] | rw [if_neg c_2] | rw [if_neg (by rw [c_2]; decide)] | skip) <;> (first | done | rw [if_pos c_3] | rw [if_neg c_3] | rw [if_neg (by rw [c_3]; decide)] | skip) <;> (first | done | rfl | (simp only [c_1, c_2, c_3]; rfl) | (simp [c_1, c_2, c_3, bI]; done)))
      · skip
        have c_3 := bI_1 c_3
        have hd := hd c_3
        refine lv_iload hx hb dX5_odds_28 (lv_at hl 4 rfl) ?_
        refine lv_iconst (v := 0) hx hb dX5_odds_30 (by decide) ?_
        refine lv_iconst (v := 1) hx hb dX5_odds_31 (by decide) ?_
        refine g_rdS (As := [.int what, .int 0, .int 1]) (rest := []) (nL := 11) hx hb hml hown hts (c_X5_in lz G what 0 1) gX5_odds_X5_in rfl h_X5_in ⟨Nat.le_of_ble_eq_true rfl, Nat.le_of_ble_eq_true rfl⟩ hK gP_nil rfl hl.1 rfl (Nat.le_of_ble_eq_true rfl) ⟨Nat.le_refl _, Nat.le_refl _⟩ dX5_odds_32 ?_
        refine lv_if_ne (tgt := 40) hx hb dX5_odds_35 (by decide) (fun c_4 => ?_) (fun c_4 => ?_)
        · skip
          have c_4 := bI_1 c_4
          refine lv_aload_n hx hb dX5_odds_40 rfl (lv_at hl 0 rfl) ?_
          refine lv_iload_n hx hb dX5_odds_41 rfl (lv_at hl 1 rfl) ?_
          refine g_top (y := nI s.toNatClampNeg) (hsj) ?_
          refine lv_iconst (v := 0) hx hb dX5_odds_42 (by decide) ?_
          refine g_rdV (As := [.int (nI s.toNatClampNeg), .int 0]) (rest := []) (nL := 11) hx hb hml hown hts (c_X5_strengthOf lz G a m s.toNatClampNeg 0 (by omega) hpl) gX5_odds_X5_strengthOf rfl h_X5_strengthOf ⟨Nat.le_of_ble_eq_true rfl, Nat.le_of_ble_eq_true rfl⟩ hK hP (ci := 5) rfl rfl rfl rfl hl.1 rfl (Nat.le_of_ble_eq_true rfl) ⟨Nat.le_refl _, Nat.le_refl _⟩ dX5_odds_43 ?_
          refine lv_istore (lv' := [(5, .int (dSt m s.toNatClampNeg 0)), (0, .ref (a 0)), (1, .int s), (2, .int nn), (3, .int x), (4, .int what)]) hx hb dX5_odds_46 hl (by decide) rfl (fun ls hl => ?_)
          refine lv_iconst (v := 0) hx hb dX5_odds_48 (by decide) ?_
          refine lv_istore (lv' := [(6, .int 0), (5, .int (dSt m s.toNatClampNeg 0)), (0, .ref (a 0)), (1, .int s), (2, .int nn), (3, .int x), (4, .int what)]) hx hb dX5_odds_49 hl (by decide) rfl (fun ls hl => ?_)
          refine lv_iconst (v := 0) hx hb dX5_odds_51 (by decide) ?_
          refine lv_istore (lv' := [(7, .int 0), (6, .int 0), (5, .int (dSt m s.toNatClampNeg 0)), (0, .ref (a 0)), (1, .int s), (2, .int nn), (3, .int x), (4, .int what)]) hx hb dX5_odds_52 hl (by decide) rfl (fun ls hl => ?_)
          refine lv_iconst (v := 0) hx hb dX5_odds_54 (by decide) ?_
          refine lv_istore (lv' := [(8, .int 0), (7, .int 0), (6, .int 0), (5, .int (dSt m s.toNatClampNeg 0)), (0, .ref (a 0)), (1, .int s), (2, .int nn), (3, .int x), (4, .int what)]) hx hb dX5_odds_55 hl (by decide) rfl (fun ls hl => ?_)
          have lp_57 : ∀ (fu_57 : Nat) (i : Nat) (u : Int32) (w : Int32), (i ≤ 2 ^ nn.toNatClampNeg) → (u = upS m (dSt m s.toNatClampNeg 0) nn x i) → (w = alS x nn.toNatClampNeg i) → 2 ^ nn.toNatClampNeg - i < fu_57 → ∀ ls : Array Slot, lv_has ls 11 [(0, .ref (a 0)), (1, .int s), (2, .int nn), (3, .int x), (4, .int what), (5, .int (dSt m s.toNatClampNeg 0)), (6, .int u), (7, .int w), (8, .int (nI i))] → W pz lz ez (gRm 3) sz mz ([.ref (a 0), .int s, .int nn, .int x, .int what] : List Value).toArray bz tz cz sz.heap [] 0 0 (MQ bz (vp_Si (fun xx_ => xx_ = yOdR m s nn x what)) ([.ref (a 0), .int s, .int nn, .int x, .int what] : List Value).toArray sz 0 0 (fun _ => False)) (F0 mz 57 ls []) := by
            intro fu_57
            induction fu_57 with
            | zero =>
              intro i u w hi hu ha hf_57
              exact absurd hf_57 (Nat.not_lt_zero _)
            | succ fu_57 ih_57 =>
              intro i u w hi hu ha hf_57 ls hl
              refine lv_iload hx hb dX5_odds_57 (lv_at hl 8 rfl) ?_
              refine lv_iconst (v := 1) hx hb dX5_odds_59 (by decide) ?_
              refine lv_iload_n hx hb dX5_odds_60 rfl (lv_at hl 2 rfl) ?_
              refine g_top (y := nI nn.toNatClampNeg) (hq) ?_
              refine lv_ishl hx hb dX5_odds_61 ?_
              refine g_top (y := nI (2 ^ nn.toNatClampNeg)) (sh_pow hq6) ?_
              refine lv_icmp_ge (tgt := 148) hx hb dX5_odds_62 (by decide) (fun c_5 => ?_) (fun c_5 => ?_)
              · skip
                have c_5 := gl_le c_5
                have hx2 : 2 ^ nn.toNatClampNeg ≤ i := gl_ex rfl (by omega) (by omega) c_5
                refine lv_iload hx hb dX5_odds_148 (lv_at hl 6 rfl) ?_
                refine lv_iload hx hb dX5_odds_150 (lv_at hl 7 rfl) ?_
                refine g_rdS (As := [.int u, .int w]) (rest := []) (nL := 11) hx hb hml hown hts (c_X5_divisor lz G u w) gX5_odds_X5_divisor rfl h_X5_divisor ⟨Nat.le_of_ble_eq_true rfl, Nat.le_of_ble_eq_true rfl⟩ hK gP_nil rfl hl.1 rfl (Nat.le_of_ble_eq_true rfl) ⟨Nat.le_refl _, Nat.le_refl _⟩ dX5_odds_152 ?_
                refine lv_istore (lv' := [(8, .int (gcL (w.toNatClampNeg + 1) u w)), (0, .ref (a 0)), (1, .int s), (2, .int nn), (3, .int x), (4, .int what), (5, .int (dSt m s.toNatClampNeg 0)), (6, .int u), (7, .int w)]) hx hb dX5_odds_155 hl (by decide) rfl (fun ls hl => ?_)
                refine lv_iload hx hb dX5_odds_157 (lv_at hl 5 rfl) ?_
                refine lv_if_ne (tgt := 170) hx hb dX5_odds_159 (by decide) (fun c_6 => ?_) (fun c_6 => ?_)
                · skip
                  refine lv_iload hx hb dX5_odds_170 (lv_at hl 8 rfl) ?_
                  refine lv_iload hx hb dX5_odds_172 (lv_at hl 0 rfl) ?_
                  refine lv_idiv hx hb dX5_odds_174 (by rw [yOdD, ← show u = upS m (dSt m s.toNatClampNeg 0) nn x (2 ^ nn.toNatClampNeg) by rw [hu, show i = 2 ^ nn.toNatClampNeg by omega], ← show w = alS x nn.toNatClampNeg (2 ^ nn.toNatClampNeg) by rw [ha, show i = 2 ^ nn.toNatClampNeg by omega]] at hd; exact hd) ?_
                  exact g_ri hx hb hr hlocks dX5_odds_175 (by rw [yOdR, yOdD, ← show u = upS m (dSt m s.toNatClampNeg 0) nn x (2 ^ nn.toNatClampNeg) by rw [hu, show i = 2 ^ nn.toNatClampNeg by omega], ← show w = alS x nn.toNatClampNeg (2 ^ nn.toNatClampNeg) by rw [ha, show i = 2 ^ nn.toNatClampNeg by omega]] <;> (first | done | rw [if_pos c_1] | rw [if_neg c_1] | rw [if_neg (by rw [c_1]; decide)] | skip) <;> (first | done | rw [if_pos c_2] | rw [if_neg c_2] | rw [if_neg (by rw [c_2]; decide)] | skip) <;> (first | done | rw [if_pos c_3] | rw [if_neg c_3] | rw [if_neg (by rw [c_3]; decide)] | skip) <;> (first | done | rw [if_pos c_4] | rw [if_neg c_4] | rw [if_neg (by rw [c_4]; decide)] | skip) <;> (first | done | rw [if_pos c_5] | rw [if_neg c_5] | rw [if_neg (by rw [c_5]; decide)] | skip) <;> (first | done | rw [if_pos c_6] | rw [if_neg c_6] | rw [if_neg (by rw [c_6]; decide)] | skip) <;> (first | done | rfl))
                · skip
                  refine lv_iload hx hb dX5_odds_162 (lv_at hl 7 rfl) ?_
                  refine lv_iload hx hb dX5_odds_164 (lv_at hl 0 rfl) ?_
                  refine lv_idiv hx hb dX5_odds_166 (by rw [yOdD, ← show u = upS m (dSt m s.toNatClampNeg 0) nn x (2 ^ nn.toNatClampNeg) by rw [hu, show i = 2 ^ nn.toNatClampNeg by omega], ← show w = alS x nn.toNatClampNeg (2 ^ nn.toNatClampNeg) by rw [ha, show i = 2 ^ nn.toNatClampNeg by omega]] at hd; exact hd) ?_
                  refine lv_goto (tgt := 175) hx hb dX5_odds_167 (by decide) ?_
                  exact g_ri hx hb hr hlocks dX5_odds_175 (by rw [yOdR, yOdD, ← show u = upS m (dSt m s.toNatClampNeg 0) nn x (2 ^ nn.toNatClampNeg) by rw [hu, show i = 2 ^ nn.toNatClampNeg by omega], ← show w = alS x nn.toNatClampNeg (2 ^ nn.toNatClampNeg) by rw [ha, show i = 2 ^ nn.toNatClampNeg by omega]] <;> (first | done | rw [if_pos c_1] | rw [if_neg c_1] | rw [if_neg (by rw [c_1]; decide)] | skip) <;> (first | done | rw [if_pos c_2] | rw [if_neg c_2] | rw [if_neg (by rw [c_2]; decide)] | skip) <;> (first | done | rw [if_pos c_3] | rw [if_neg c_3] | rw [if_neg (by rw [c_3]; decide)] | skip) <;> (first | done | rw [if_pos c_4] | rw [if_neg c_4] | rw [if_neg (by rw [c_4]; decide)] | skip) <;> (first | done | rw [if_pos c_5] | rw [if_neg c_5] | rw [if_neg (by rw [c_5]; decide)] | skip) <;> (first | done | rw [if_pos c_6] | rw [if_neg c_6] | rw [if_neg (by rw [c_6]; decide)] | skip) <;> (first | done | rfl))
              · skip
                have c_5 := gl_nle c_5
                have hlt : i < 2 ^ nn.toNatClampNeg := gl_in rfl (by omega) (by omega) c_5
                refine lv_iconst (v := 1) hx hb dX5_odds_65 (by decide) ?_
                refine lv_istore (lv' := [(9, .int 1), (0, .ref (a 0)), (1, .int s), (2, .int nn), (3, .int x), (4, .int what), (5, .int (dSt m s.toNatClampNeg 0)), (6, .int u), (7, .int w), (8, .int (nI i))]) hx hb dX5_odds_66 hl (by decide) rfl (fun ls hl => ?_)
                refine lv_iconst (v := 0) hx hb dX5_odds_68 (by decide) ?_
                refine lv_istore (lv' := [(10, .int 0), (9, .int 1), (0, .ref (a 0)), (1, .int s), (2, .int nn), (3, .int x), (4, .int what), (5, .int (dSt m s.toNatClampNeg 0)), (6, .int u), (7, .int w), (8, .int (nI i))]) hx hb dX5_odds_69 hl (by decide) rfl (fun ls hl => ?_)
                have lp_71 : ∀ (fu_71 : Nat) (y : Nat) (v : Int32), (y ≤ nn.toNatClampNeg) → (v = prD x (nI i) y) → nn.toNatClampNeg - y < fu_71 → ∀ ls : Array Slot, lv_has ls 11 [(0, .ref (a 0)), (1, .int s), (2, .int nn), (3, .int x), (4, .int what), (5, .int (dSt m s.toNatClampNeg 0)), (6, .int u), (7, .int w), (8, .int (nI i)), (9, .int v), (10, .int (nI y))] → W pz lz ez (gRm 3) sz mz ([.ref (a 0), .int s, .int nn, .int x, .int what] : List Value).toArray bz tz cz sz.heap [] 0 0 (MQ bz (vp_Si (fun xx_ => xx_ = yOdR m s nn x what)) ([.ref (a 0), .int s, .int nn, .int x, .int what] : List Value).toArray sz 0 0 (fun _ => False)) (F0 mz 71 ls []) := by
                  intro fu_71
                  induction fu_71 with
                  | zero =>
                    intro y v hy hpr hf_71
                    exact absurd hf_71 (Nat.not_lt_zero _)
                  | succ fu_71 ih_71 =>
                    intro y v hy hpr hf_71 ls hl
                    refine lv_iload hx hb dX5_odds_71 (lv_at hl 10 rfl) ?_
                    refine lv_iload_n hx hb dX5_odds_73 rfl (lv_at hl 2 rfl) ?_
                    refine lv_icmp_ge (tgt := 106) hx hb dX5_odds_74 (by decide) (fun c_7 => ?_) (fun c_7 => ?_)
                    · skip
                      have c_7 := gl_le c_7
                      have hyx : nn.toNatClampNeg ≤ y := gl_ex hq (by omega) (by omega) c_7
                      have hpe : v = prD x (nI i) nn.toNatClampNeg := by rw [hpr, show y = nn.toNatClampNeg by omega]
                      refine lv_iload hx hb dX5_odds_106 (lv_at hl 6 rfl) ?_
                      refine lv_iload hx hb dX5_odds_108 (lv_at hl 5 rfl) ?_
                      refine lv_aload_n hx hb dX5_odds_110 rfl (lv_at hl 0 rfl) ?_
                      refine va_get (D := G.1) (ci := 5) (v := .int m.loss) (C := RX5) (T := TX5) (N := 21) hx hb hts i_X5_odds_X5 hown hK.1 hP 0 rfl rfl 3 (by decide) f17 (fun _ h9 => h9) rfl dX5_odds_111 ?_
                      refine lv_iload_n hx hb dX5_odds_114 rfl (lv_at hl 2 rfl) ?_
                      refine lv_iload hx hb dX5_odds_115 (lv_at hl 8 rfl) ?_
                      refine g_rdS (As := [.int (nI i)]) (rest := [.int nn, .int m.loss, .int (dSt m s.toNatClampNeg 0), .int u]) (nL := 11) hx hb hml hown hts (c_X5_bits lz G (nI i)) gX5_odds_X5_bits rfl h_X5_bits ⟨Nat.le_of_ble_eq_true rfl, Nat.le_of_ble_eq_true rfl⟩ hK gP_nil rfl hl.1 rfl (Nat.le_of_ble_eq_true rfl) ⟨Nat.le_refl _, Nat.le_refl _⟩ dX5_odds_117 ?_
                      refine lv_iadd hx hb dX5_odds_120 ?_
                      refine lv_imul hx hb dX5_odds_121 ?_
                      refine lv_isub hx hb dX5_odds_122 ?_
                      refine lv_if_le (tgt := 131) hx hb dX5_odds_123 (by decide) (fun c_8 => ?_) (fun c_8 => ?_)
                      · skip
                        have c_8 := gl_le c_8
                        refine lv_iconst (v := 0) hx hb dX5_odds_131 (by decide) ?_
                        refine lv_iadd hx hb dX5_odds_132 ?_
                        refine lv_istore (lv' := [(6, .int (u + 0)), (0, .ref (a 0)), (1, .int s), (2, .int nn), (3, .int x), (4, .int what), (5, .int (dSt m s.toNatClampNeg 0)), (7, .int w), (8, .int (nI i)), (9, .int v), (10, .int (nI y))]) hx hb dX5_odds_133 hl (by decide) rfl (fun ls hl => ?_)
                        refine lv_iload hx hb dX5_odds_135 (lv_at hl 7 rfl) ?_
                        refine lv_iload hx hb dX5_odds_137 (lv_at hl 9 rfl) ?_
                        refine lv_iadd hx hb dX5_odds_139 ?_
                        refine lv_istore (lv' := [(7, .int (w + v)), (6, .int (u + 0)), (0, .ref (a 0)), (1, .int s), (2, .int nn), (3, .int x), (4, .int what), (5, .int (dSt m s.toNatClampNeg 0)), (8, .int (nI i)), (9, .int v), (10, .int (nI y))]) hx hb dX5_odds_140 hl (by decide) rfl (fun ls hl => ?_)
                        refine lv_iinc (v := nI (i + 1)) (lv' := [(8, .int (nI (i + 1))), (7, .int (w + v)), (6, .int (u + 0)), (0, .ref (a 0)), (1, .int s), (2, .int nn), (3, .int x), (4, .int what), (5, .int (dSt m s.toNatClampNeg 0)), (9, .int v), (10, .int (nI y))]) hx hb dX5_odds_142 hl (k := 8) rfl (nI_1 i) (by decide) rfl (fun ls hl => ?_)
                        refine lv_goto (tgt := 57) hx hb dX5_odds_145 (by decide) ?_
                        exact ih_57 (i + 1) (u + 0) (w + v) hlt (by rw [upS, ← hu, ← hpe] <;> (first | rw [if_pos c_8] | rw [if_neg c_8]) <;> (first | done | rfl)) (by rw [alS, ← ha, ← hpe]) (by omega) ls (lv_sub hl [3, 4, 5, 6, 7, 8, 2, 1, 0] rfl)
                      · skip
                        have c_8 := gl_nle c_8
                        refine lv_iload hx hb dX5_odds_126 (lv_at hl 9 rfl) ?_
                        refine lv_goto (tgt := 132) hx hb dX5_odds_128 (by decide) ?_
                        refine lv_iadd hx hb dX5_odds_132 ?_
                        refine lv_istore (lv' := [(6, .int (u + v)), (0, .ref (a 0)), (1, .int s), (2, .int nn), (3, .int x), (4, .int what), (5, .int (dSt m s.toNatClampNeg 0)), (7, .int w), (8, .int (nI i)), (9, .int v), (10, .int (nI y))]) hx hb dX5_odds_133 hl (by decide) rfl (fun ls hl => ?_)
                        refine lv_iload hx hb dX5_odds_135 (lv_at hl 7 rfl) ?_
                        refine lv_iload hx hb dX5_odds_137 (lv_at hl 9 rfl) ?_
                        refine lv_iadd hx hb dX5_odds_139 ?_
                        refine lv_istore (lv' := [(7, .int (w + v)), (6, .int (u + v)), (0, .ref (a 0)), (1, .int s), (2, .int nn), (3, .int x), (4, .int what), (5, .int (dSt m s.toNatClampNeg 0)), (8, .int (nI i)), (9, .int v), (10, .int (nI y))]) hx hb dX5_odds_140 hl (by decide) rfl (fun ls hl => ?_)
                        refine lv_iinc (v := nI (i + 1)) (lv' := [(8, .int (nI (i + 1))), (7, .int (w + v)), (6, .int (u + v)), (0, .ref (a 0)), (1, .int s), (2, .int nn), (3, .int x), (4, .int what), (5, .int (dSt m s.toNatClampNeg 0)), (9, .int v), (10, .int (nI y))]) hx hb dX5_odds_142 hl (k := 8) rfl (nI_1 i) (by decide) rfl (fun ls hl => ?_)
                        refine lv_goto (tgt := 57) hx hb dX5_odds_145 (by decide) ?_
                        exact ih_57 (i + 1) (u + v) (w + v) hlt (by rw [upS, ← hu, ← hpe] <;> (first | rw [if_pos c_8] | rw [if_neg c_8]) <;> (first | done | rfl)) (by rw [alS, ← ha, ← hpe]) (by omega) ls (lv_sub hl [3, 4, 5, 6, 7, 8, 2, 1, 0] rfl)
                    · skip
                      have c_7 := gl_nle c_7
                      have hyl : y < nn.toNatClampNeg := gl_in hq (by omega) (by omega) c_7
                      refine lv_iload hx hb dX5_odds_77 (lv_at hl 9 rfl) ?_
                      refine lv_iload hx hb dX5_odds_79 (lv_at hl 8 rfl) ?_
                      refine lv_iload hx hb dX5_odds_81 (lv_at hl 10 rfl) ?_
                      refine g_rdS (As := [.int (nI i), .int (nI y)]) (rest := [.int v]) (nL := 11) hx hb hml hown hts (c_X5_has lz G (nI i) (nI y)) gX5_odds_X5_has rfl h_X5_has ⟨Nat.le_of_ble_eq_true rfl, Nat.le_of_ble_eq_true rfl⟩ hK gP_nil rfl hl.1 rfl (Nat.le_of_ble_eq_true rfl) ⟨Nat.le_refl _, Nat.le_refl _⟩ dX5_odds_83 ?_
                      refine lv_if_eq (tgt := 93) hx hb dX5_odds_86 (by decide) (fun c_9 => ?_) (fun c_9 => ?_)
                      · skip
                        have c_9 := bI_0 c_9
                        refine lv_bipush (v := 10) hx hb dX5_odds_93 (by decide) ?_
                        refine lv_iload_n hx hb dX5_odds_95 rfl (lv_at hl 3 rfl) ?_
                        refine lv_isub hx hb dX5_odds_96 ?_
                        refine lv_imul hx hb dX5_odds_97 ?_
                        refine lv_istore (lv' := [(9, .int (v * (10 - x))), (0, .ref (a 0)), (1, .int s), (2, .int nn), (3, .int x), (4, .int what), (5, .int (dSt m s.toNatClampNeg 0)), (6, .int u), (7, .int w), (8, .int (nI i)), (10, .int (nI y))]) hx hb dX5_odds_98 hl (by decide) rfl (fun ls hl => ?_)
                        refine lv_iinc (v := nI (y + 1)) (lv' := [(10, .int (nI (y + 1))), (9, .int (v * (10 - x))), (0, .ref (a 0)), (1, .int s), (2, .int nn), (3, .int x), (4, .int what), (5, .int (dSt m s.toNatClampNeg 0)), (6, .int u), (7, .int w), (8, .int (nI i))]) hx hb dX5_odds_100 hl (k := 10) rfl (nI_1 y) (by decide) rfl (fun ls hl => ?_)
                        refine lv_goto (tgt := 71) hx hb dX5_odds_103 (by decide) ?_
                        exact ih_71 (y + 1) (v * (10 - x)) hyl (by rw [prD, ← hpr] <;> (first | rw [if_pos c_9] | rw [if_neg (by rw [c_9]; decide)])) (by omega) ls (lv_sub hl [2, 3, 4, 5, 6, 7, 8, 9, 10, 1, 0] rfl)
                      · skip
                        have c_9 := bI_1 c_9
                        refine lv_iload_n hx hb dX5_odds_89 rfl (lv_at hl 3 rfl) ?_
                        refine lv_goto (tgt := 97) hx hb dX5_odds_90 (by decide) ?_
                        refine lv_imul hx hb dX5_odds_97 ?_
                        refine lv_istore (lv' := [(9, .int (v * x)), (0, .ref (a 0)), (1, .int s), (2, .int nn), (3, .int x), (4, .int what), (5, .int (dSt m s.toNatClampNeg 0)), (6, .int u), (7, .int w), (8, .int (nI i)), (10, .int (nI y))]) hx hb dX5_odds_98 hl (by decide) rfl (fun ls hl => ?_)
                        refine lv_iinc (v := nI (y + 1)) (lv' := [(10, .int (nI (y + 1))), (9, .int (v * x)), (0, .ref (a 0)), (1, .int s), (2, .int nn), (3, .int x), (4, .int what), (5, .int (dSt m s.toNatClampNeg 0)), (6, .int u), (7, .int w), (8, .int (nI i))]) hx hb dX5_odds_100 hl (k := 10) rfl (nI_1 y) (by decide) rfl (fun ls hl => ?_)
                        refine lv_goto (tgt := 71) hx hb dX5_odds_103 (by decide) ?_
                        exact ih_71 (y + 1) (v * x) hyl (by rw [prD, ← hpr] <;> (first | rw [if_pos c_9] | rw [if_neg (by rw [c_9]; decide)])) (by omega) ls (lv_sub hl [2, 3, 4, 5, 6, 7, 8, 9, 10, 1, 0] rfl)
                exact lp_71 ((nn.toNatClampNeg - 0) + 1) 0 1 (Nat.zero_le _) rfl (Nat.lt_succ_self _) ls (lv_sub hl [2, 3, 4, 5, 6, 7, 8, 9, 10, 1, 0] rfl)
          exact lp_57 ((2 ^ nn.toNatClampNeg - 0) + 1) 0 0 0 (Nat.zero_le _) rfl rfl (Nat.lt_succ_self _) ls (lv_sub hl [4, 5, 6, 7, 8, 3, 2, 1, 0] rfl)
        · skip
          have c_4 := bI_0 c_4
          refine lv_iconst (v := (-1)) hx hb dX5_odds_38 (by decide) ?_
          exact g_ri hx hb hr hlocks dX5_odds_39 (by rw [yOdR] <;> (first | done | rw [if_pos c_1] | rw [if_neg c_1] | rw [if_neg (by rw [c_1]; decide)] | skip) <;> (first | done | rw [if_pos c_2] | rw [if_neg c_2] | rw [if_neg (by rw [c_2]; decide)] | skip) <;> (first | done | rw [if_pos c_3] | rw [if_neg c_3] | rw [if_neg (by rw [c_3]; decide)] | skip) <;> (first | done | rw [if_pos c_4] | rw [if_neg c_4] | rw [if_neg (by rw [c_4]; decide)] | skip) <;> (first | done | rfl | (simp only [c_1, c_2, c_3, c_4]; rfl) | (simp [c_1, c_2, c_3, c_4, bI]; done)))

theorem i_X5_hears_X5 : ∀ w ∈ wsX50, w ∈ wsX5_hears := by decide +kernel
theorem h_X5_hears : yX5_hears.cls = RX5 ∧ yX5_hears.cls ≠ "java/lang/invoke/MethodHandle" ∧ yX5_hears.cls ≠ "java/lang/invoke/VarHandle" ∧ (parseMethodDescriptor yX5_hears.desc).map (fun d => d.parameters.length) = some 3 := by decide +kernel
set_option maxHeartbeats 4000000 in
set_option maxRecDepth 100000 in
theorem c_X5_hears (lz : Launch) (G : gG) (a : Nat → Nat) (m : MdS) (k : Nat) (p nn th : Int32) (hk : m.hm = nI k) (hk6 : k ≤ 6) : gWr lz yX5_hears wsX5_hears 2 G [.ref (a 0), .int p, .int nn, .int th] (wMd a G.2.1 G.2.2.1 m) (wMd a G.2.1 G.2.2.1 (m.text, m.len, m.pl, m.loss, m.nich, m.st, m.book, m.undos, m.imgs, m.kept, yHeH m k p nn th, yHeM m k p nn th, m.trail, m.pos, m.wrong, m.items, m.rp, m.rl, m.sl, m.rn, m.read)) (some (.int (yHeR m k p nn th))) := by
  refine g_wr (by decide) rfl (Nat.le_of_ble_eq_true rfl) ?_
  intro pz ez sz mz bz tz cz hx hb hr hml hown hts hlocks hK A hAe hP hD hS ls hl
  have hl : lv_has ls 4 [(0, .ref (a 0)), (1, .int p), (2, .int nn), (3, .int th)] := hl
  have f33 := hts (.fieldLink RX5 33 "WhisperRingModel" "heard" "[I") (by decide +kernel)
  have f98 := hts (.fieldLink RX5 98 "WhisperRingModel" "heardMany" "I") (by decide +kernel)
  refine lv_aload_n hx hb dX5_hears_0 rfl (lv_at hl 0 rfl) ?_
  refine lv_iload_n hx hb dX5_hears_1 rfl (lv_at hl 1 rfl) ?_
  refine g_rdV (As := [.int p]) (rest := []) (nL := 4) hx hb hml hown hts (c_X5_isPlace lz G a m p) gX5_hears_X5_isPlace rfl h_X5_isPlace ⟨Nat.le_of_ble_eq_true rfl, Nat.le_of_ble_eq_true rfl⟩ hK hP (ci := 5) rfl rfl rfl rfl hl.1 rfl (Nat.le_of_ble_eq_true rfl) ⟨Nat.le_refl _, Nat.le_refl _⟩ dX5_hears_2 ?_
  refine lv_if_eq (tgt := 27) hx hb dX5_hears_5 (by decide) (fun c_1 => ?_) (fun c_1 => ?_)
  · skip
    have c_1 := bI_0 c_1
    refine lv_iconst (v := (-1)) hx hb dX5_hears_27 (by decide) ?_
    have hP : va_P G.1 vwCl (wMd a G.2.1 G.2.2.1 (m.text, m.len, m.pl, m.loss, m.nich, m.st, m.book, m.undos, m.imgs, m.kept, yHeH m k p nn th, yHeM m k p nn th, m.trail, m.pos, m.wrong, m.items, m.rp, m.rl, m.sl, m.rn, m.read)) sz.heap := by
      rw [yHeH, yHeM] <;> (first | rw [if_pos c_1, if_pos c_1] | rw [if_neg c_1, if_neg c_1] | rw [if_neg (by rw [c_1]; decide), if_neg (by rw [c_1]; decide)] | skip)
      exact hP
    exact g_wi hx hb hr hlocks hAe hP hS dX5_hears_28 (by rw [yHeR] <;> (first | done | rw [if_pos c_1] | rw [if_neg c_1] | rw [if_neg (by rw [c_1]; decide)] | skip) <;> (first | done | rfl | (simp only [c_1]; rfl) | (simp [c_1, bI]; done)))
  · skip
    have c_1 := bI_1 c_1
    refine lv_iload_n hx hb dX5_hears_8 rfl (lv_at hl 2 rfl) ?_
    refine lv_iconst (v := 0) hx hb dX5_hears_9 (by decide) ?_
    refine lv_bipush (v := 99) hx hb dX5_hears_10 (by decide) ?_
    refine g_rdS (As := [.int nn, .int 0, .int 99]) (rest := []) (nL := 4) hx hb hml hown hts (c_X5_in lz G nn 0 99) gX5_hears_X5_in rfl h_X5_in ⟨Nat.le_of_ble_eq_true rfl, Nat.le_of_ble_eq_true rfl⟩ hK gP_nil rfl hl.1 rfl (Nat.le_of_ble_eq_true rfl) ⟨Nat.le_refl _, Nat.le_refl _⟩ dX5_hears_12 ?_
    refine lv_if_eq (tgt := 27) hx hb dX5_hears_15 (by decide) (fun c_2 => ?_) (fun c_2 => ?_)
    · skip
      have c_2 := bI_0 c_2
      refine lv_iconst (v := (-1)) hx hb dX5_hears_27 (by decide) ?_
      have hP : va_P G.1 vwCl (wMd a G.2.1 G.2.2.1 (m.text, m.len, m.pl, m.loss, m.nich, m.st, m.book, m.undos, m.imgs, m.kept, yHeH m k p nn th, yHeM m k p nn th, m.trail, m.pos, m.wrong, m.items, m.rp, m.rl, m.sl, m.rn, m.read)) sz.heap := by
        rw [yHeH, yHeM] <;> (first | rw [if_pos c_1, if_pos c_1] | rw [if_neg c_1, if_neg c_1] | rw [if_neg (by rw [c_1]; decide), if_neg (by rw [c_1]; decide)] | skip) <;> (first | rw [if_pos c_2, if_pos c_2] | rw [if_neg c_2, if_neg c_2] | rw [if_neg (by rw [c_2]; decide), if_neg (by rw [c_2]; decide)] | skip)
        exact hP
      exact g_wi hx hb hr hlocks hAe hP hS dX5_hears_28 (by rw [yHeR] <;> (first | done | rw [if_pos c_1] | rw [if_neg c_1] | rw [if_neg (by rw [c_1]; decide)] | skip) <;> (first | done | rw [if_pos c_2] | rw [if_neg c_2] | rw [if_neg (by rw [c_2]; decide)] | skip) <;> (first | done | rfl | (simp only [c_1, c_2]; rfl) | (simp [c_1, c_2, bI]; done)))
    · skip
      have c_2 := bI_1 c_2
      refine lv_iload_n hx hb dX5_hears_18 rfl (lv_at hl 3 rfl) ?_
      refine lv_iconst (v := 0) hx hb dX5_hears_19 (by decide) ?_
      refine lv_iconst (v := 1) hx hb dX5_hears_20 (by decide) ?_
      refine g_rdS (As := [.int th, .int 0, .int 1]) (rest := []) (nL := 4) hx hb hml hown hts (c_X5_in lz G th 0 1) gX5_hears_X5_in rfl h_X5_in ⟨Nat.le_of_ble_eq_true rfl, Nat.le_of_ble_eq_true rfl⟩ hK gP_nil rfl hl.1 rfl (Nat.le_of_ble_eq_true rfl) ⟨Nat.le_refl _, Nat.le_refl _⟩ dX5_hears_21 ?_
      refine lv_if_ne (tgt := 29) hx hb dX5_hears_24 (by decide) (fun c_3 => ?_) (fun c_3 => ?_)
      · skip
        have c_3 := bI_1 c_3
        refine lv_aload_n hx hb dX5_hears_29 rfl (lv_at hl 0 rfl) ?_
        refine va_get (D := G.1) (ci := 5) (v := .int m.hm) (C := RX5) (T := TX5) (N := 21) hx hb hts i_X5_hears_X5 hown hK.1 hP 0 rfl rfl 11 (by decide) f98 (fun _ h9 => h9) rfl dX5_hears_30 ?_
        refine lv_bipush (v := 6) hx hb dX5_hears_33 (by decide) ?_
        refine lv_icmp_ne (tgt := 41) hx hb dX5_hears_35 (by decide) (fun c_4 => ?_) (fun c_4 => ?_)
        · skip
          have hk5 : k < 6 := by
            rcases Nat.lt_or_ge k 6 with q | q
            · exact q
            · exact absurd (by rw [hk, show k = 6 by omega]; rfl) c_4
          refine lv_aload_n hx hb dX5_hears_41 rfl (lv_at hl 0 rfl) ?_
          refine va_get (D := G.1) (ci := 5) (v := .ref (a 6)) (C := RX5) (T := TX5) (N := 21) hx hb hts i_X5_hears_X5 hown hK.1 hP 0 rfl rfl 10 (by decide) f33 (fun _ h9 => h9) rfl dX5_hears_42 ?_
          refine lv_iconst (v := 3) hx hb dX5_hears_45 (by decide) ?_
          refine lv_aload_n hx hb dX5_hears_46 rfl (lv_at hl 0 rfl) ?_
          refine va_get (D := G.1) (ci := 5) (v := .int m.hm) (C := RX5) (T := TX5) (N := 21) hx hb hts i_X5_hears_X5 hown hK.1 hP 0 rfl rfl 11 (by decide) f98 (fun _ h9 => h9) rfl dX5_hears_47 ?_
          refine g_top (y := nI k) (hk) ?_
          refine lv_imul hx hb dX5_hears_50 ?_
          refine g_top (y := nI (3 * k)) (pk_mul 3 k) ?_
          refine lv_iload_n hx hb dX5_hears_51 rfl (lv_at hl 1 rfl) ?_
          refine g_iast hx hb hK.1 hP hD hS 6 0 rfl rfl (i := (3 * k)) (by omega) (by decide) dX5_hears_52 (fun H locs hP hD hS => ?_)
          have hP : va_P G.1 vwCl (wMd a G.2.1 G.2.2.1 (m.text, m.len, m.pl, m.loss, m.nich, m.st, m.book, m.undos, m.imgs, m.kept, upd m.heard (3 * k) p, m.hm, m.trail, m.pos, m.wrong, m.items, m.rp, m.rl, m.sl, m.rn, m.read)) H := hP
          have hD : va_D A (wMd a G.2.1 G.2.2.1 (m.text, m.len, m.pl, m.loss, m.nich, m.st, m.book, m.undos, m.imgs, m.kept, upd m.heard (3 * k) p, m.hm, m.trail, m.pos, m.wrong, m.items, m.rp, m.rl, m.sl, m.rn, m.read)) := hD
          refine lv_aload_n hx hb dX5_hears_53 rfl (lv_at hl 0 rfl) ?_
          refine va_get (D := G.1) (ci := 5) (v := .ref (a 6)) (C := RX5) (T := TX5) (N := 21) hx hb hts i_X5_hears_X5 hown hK.1 hP 0 rfl rfl 10 (by decide) f33 (fun _ h9 => h9) rfl dX5_hears_54 ?_
          refine lv_iconst (v := 3) hx hb dX5_hears_57 (by decide) ?_
          refine lv_aload_n hx hb dX5_hears_58 rfl (lv_at hl 0 rfl) ?_
          refine va_get (D := G.1) (ci := 5) (v := .int m.hm) (C := RX5) (T := TX5) (N := 21) hx hb hts i_X5_hears_X5 hown hK.1 hP 0 rfl rfl 11 (by decide) f98 (fun _ h9 => h9) rfl dX5_hears_59 ?_
          refine g_top (y := nI k) (hk) ?_
          refine lv_imul hx hb dX5_hears_62 ?_
          refine g_top (y := nI (3 * k)) (pk_mul 3 k) ?_
          refine lv_iconst (v := 1) hx hb dX5_hears_63 (by decide) ?_
          refine lv_iadd hx hb dX5_hears_64 ?_
          refine g_top (y := nI ((3 * k) + 1)) (nI_add (3 * k) 1) ?_
          refine lv_iload_n hx hb dX5_hears_65 rfl (lv_at hl 2 rfl) ?_
          refine g_iast hx hb hK.1 hP hD hS 6 0 rfl rfl (i := ((3 * k) + 1)) (by omega) (by decide) dX5_hears_66 (fun H locs hP hD hS => ?_)
          have hP : va_P G.1 vwCl (wMd a G.2.1 G.2.2.1 (m.text, m.len, m.pl, m.loss, m.nich, m.st, m.book, m.undos, m.imgs, m.kept, upd (upd m.heard (3 * k) p) ((3 * k) + 1) nn, m.hm, m.trail, m.pos, m.wrong, m.items, m.rp, m.rl, m.sl, m.rn, m.read)) H := hP
          have hD : va_D A (wMd a G.2.1 G.2.2.1 (m.text, m.len, m.pl, m.loss, m.nich, m.st, m.book, m.undos, m.imgs, m.kept, upd (upd m.heard (3 * k) p) ((3 * k) + 1) nn, m.hm, m.trail, m.pos, m.wrong, m.items, m.rp, m.rl, m.sl, m.rn, m.read)) := hD
          refine lv_aload_n hx hb dX5_hears_67 rfl (lv_at hl 0 rfl) ?_
          refine va_get (D := G.1) (ci := 5) (v := .ref (a 6)) (C := RX5) (T := TX5) (N := 21) hx hb hts i_X5_hears_X5 hown hK.1 hP 0 rfl rfl 10 (by decide) f33 (fun _ h9 => h9) rfl dX5_hears_68 ?_
          refine lv_iconst (v := 3) hx hb dX5_hears_71 (by decide) ?_
          refine lv_aload_n hx hb dX5_hears_72 rfl (lv_at hl 0 rfl) ?_
          refine va_get (D := G.1) (ci := 5) (v := .int m.hm) (C := RX5) (T := TX5) (N := 21) hx hb hts i_X5_hears_X5 hown hK.1 hP 0 rfl rfl 11 (by decide) f98 (fun _ h9 => h9) rfl dX5_hears_73 ?_
          refine g_top (y := nI k) (hk) ?_
          refine lv_imul hx hb dX5_hears_76 ?_
          refine g_top (y := nI (3 * k)) (pk_mul 3 k) ?_
          refine lv_iconst (v := 2) hx hb dX5_hears_77 (by decide) ?_
          refine lv_iadd hx hb dX5_hears_78 ?_
          refine g_top (y := nI ((3 * k) + 2)) (nI_add (3 * k) 2) ?_
          refine lv_iload_n hx hb dX5_hears_79 rfl (lv_at hl 3 rfl) ?_
          refine g_iast hx hb hK.1 hP hD hS 6 0 rfl rfl (i := ((3 * k) + 2)) (by omega) (by decide) dX5_hears_80 (fun H locs hP hD hS => ?_)
          have hP : va_P G.1 vwCl (wMd a G.2.1 G.2.2.1 (m.text, m.len, m.pl, m.loss, m.nich, m.st, m.book, m.undos, m.imgs, m.kept, upd (upd (upd m.heard (3 * k) p) ((3 * k) + 1) nn) ((3 * k) + 2) th, m.hm, m.trail, m.pos, m.wrong, m.items, m.rp, m.rl, m.sl, m.rn, m.read)) H := hP
          have hD : va_D A (wMd a G.2.1 G.2.2.1 (m.text, m.len, m.pl, m.loss, m.nich, m.st, m.book, m.undos, m.imgs, m.kept, upd (upd (upd m.heard (3 * k) p) ((3 * k) + 1) nn) ((3 * k) + 2) th, m.hm, m.trail, m.pos, m.wrong, m.items, m.rp, m.rl, m.sl, m.rn, m.read)) := hD
          refine lv_aload_n hx hb dX5_hears_81 rfl (lv_at hl 0 rfl) ?_
          refine lv_dup hx hb dX5_hears_82 rfl ?_
          refine va_get (D := G.1) (ci := 5) (v := .int m.hm) (C := RX5) (T := TX5) (N := 21) hx hb hts i_X5_hears_X5 hown hK.1 hP 0 rfl rfl 11 (by decide) f98 (fun _ h9 => h9) rfl dX5_hears_83 ?_
          refine g_top (y := nI k) (hk) ?_
          refine lv_iconst (v := 1) hx hb dX5_hears_86 (by decide) ?_
          refine lv_iadd hx hb dX5_hears_87 ?_
          refine g_top (y := nI (k + 1)) (nI_add k 1) ?_
          refine va_put (D := G.1) (ci := 5) (v := .int (nI (k + 1))) (ty := .int) (C := RX5) (T := TX5) (N := 21) hx hb hts i_X5_hears_X5 tyX5 tyX5_ok nmX5 hown hK.1 hP hD hS 0 rfl rfl 11 (by decide) f98 (fun _ h9 => h9) rfl (by decide +kernel) rfl rfl (Nat.le_of_ble_eq_true rfl) dX5_hears_88 (fun H locs hP hD hS => ?_)
          have hP : va_P G.1 vwCl (wMd a G.2.1 G.2.2.1 (m.text, m.len, m.pl, m.loss, m.nich, m.st, m.book, m.undos, m.imgs, m.kept, upd (upd (upd m.heard (3 * k) p) ((3 * k) + 1) nn) ((3 * k) + 2) th, nI (k + 1), m.trail, m.pos, m.wrong, m.items, m.rp, m.rl, m.sl, m.rn, m.read)) H := hP
          have hD : va_D A (wMd a G.2.1 G.2.2.1 (m.text, m.len, m.pl, m.loss, m.nich, m.st, m.book, m.undos, m.imgs, m.kept, upd (upd (upd m.heard (3 * k) p) ((3 * k) + 1) nn) ((3 * k) + 2) th, nI (k + 1), m.trail, m.pos, m.wrong, m.items, m.rp, m.rl, m.sl, m.rn, m.read)) := hD
          refine lv_aload_n hx hb dX5_hears_91 rfl (lv_at hl 0 rfl) ?_
          refine va_get (D := G.1) (ci := 5) (v := .int (nI (k + 1))) (C := RX5) (T := TX5) (N := 21) hx hb hts i_X5_hears_X5 hown hK.1 hP 0 rfl rfl 11 (by decide) f98 (fun _ h9 => h9) rfl dX5_hears_92 ?_
          have hP : va_P G.1 vwCl (wMd a G.2.1 G.2.2.1 (m.text, m.len, m.pl, m.loss, m.nich, m.st, m.book, m.undos, m.imgs, m.kept, yHeH m k p nn th, yHeM m k p nn th, m.trail, m.pos, m.wrong, m.items, m.rp, m.rl, m.sl, m.rn, m.read)) H := by
            rw [yHeH, yHeM] <;> (first | rw [if_pos c_1, if_pos c_1] | rw [if_neg c_1, if_neg c_1] | rw [if_neg (by rw [c_1]; decide), if_neg (by rw [c_1]; decide)] | skip) <;> (first | rw [if_pos c_2, if_pos c_2] | rw [if_neg c_2, if_neg c_2] | rw [if_neg (by rw [c_2]; decide), if_neg (by rw [c_2]; decide)] | skip) <;> (first | rw [if_pos c_3, if_pos c_3] | rw [if_neg c_3, if_neg c_3] | rw [if_neg (by rw [c_3]; decide), if_neg (by rw [c_3]; decide)] | skip) <;> (first | rw [if_pos c_4, if_pos c_4] | rw [if_neg c_4, if_neg c_4] | rw [if_neg (by rw [c_4]; decide), if_neg (by rw [c_4]; decide)] | skip)
            exact hP
          exact g_wi hx hb hr hlocks hAe hP hS dX5_hears_95 (by rw [yHeR] <;> (first | done | rw [if_pos c_1] | rw [if_neg c_1] | rw [if_neg (by rw [c_1]; decide)] | skip) <;> (first | done | rw [if_pos c_2] | rw [if_neg c_2] | rw [if_neg (by rw [c_2]; decide)] | skip) <;> (first | done | rw [if_pos c_3] | rw [if_neg c_3] | rw [if_neg (by rw [c_3]; decide)] | skip) <;> (first | done | rw [if_pos c_4] | rw [if_neg c_4] | rw [if_neg (by rw [c_4]; decide)] | skip) <;> (first | done | rfl | (simp only [c_1, c_2, c_3, c_4]; rfl) | (simp [c_1, c_2, c_3, c_4, bI]; done)))
        · skip
          refine lv_bipush (v := (-3)) hx hb dX5_hears_38 (by decide) ?_
          have hP : va_P G.1 vwCl (wMd a G.2.1 G.2.2.1 (m.text, m.len, m.pl, m.loss, m.nich, m.st, m.book, m.undos, m.imgs, m.kept, yHeH m k p nn th, yHeM m k p nn th, m.trail, m.pos, m.wrong, m.items, m.rp, m.rl, m.sl, m.rn, m.read)) sz.heap := by
            rw [yHeH, yHeM] <;> (first | rw [if_pos c_1, if_pos c_1] | rw [if_neg c_1, if_neg c_1] | rw [if_neg (by rw [c_1]; decide), if_neg (by rw [c_1]; decide)] | skip) <;> (first | rw [if_pos c_2, if_pos c_2] | rw [if_neg c_2, if_neg c_2] | rw [if_neg (by rw [c_2]; decide), if_neg (by rw [c_2]; decide)] | skip) <;> (first | rw [if_pos c_3, if_pos c_3] | rw [if_neg c_3, if_neg c_3] | rw [if_neg (by rw [c_3]; decide), if_neg (by rw [c_3]; decide)] | skip) <;> (first | rw [if_pos c_4, if_pos c_4] | rw [if_neg c_4, if_neg c_4] | rw [if_neg (by rw [c_4]; decide), if_neg (by rw [c_4]; decide)] | skip)
            exact hP
          exact g_wi hx hb hr hlocks hAe hP hS dX5_hears_40 (by rw [yHeR] <;> (first | done | rw [if_pos c_1] | rw [if_neg c_1] | rw [if_neg (by rw [c_1]; decide)] | skip) <;> (first | done | rw [if_pos c_2] | rw [if_neg c_2] | rw [if_neg (by rw [c_2]; decide)] | skip) <;> (first | done | rw [if_pos c_3] | rw [if_neg c_3] | rw [if_neg (by rw [c_3]; decide)] | skip) <;> (first | done | rw [if_pos c_4] | rw [if_neg c_4] | rw [if_neg (by rw [c_4]; decide)] | skip) <;> (first | done | rfl | (simp only [c_1, c_2, c_3, c_4]; rfl) | (simp [c_1, c_2, c_3, c_4, bI]; done)))
      · skip
        have c_3 := bI_0 c_3
        refine lv_iconst (v := (-1)) hx hb dX5_hears_27 (by decide) ?_
        have hP : va_P G.1 vwCl (wMd a G.2.1 G.2.2.1 (m.text, m.len, m.pl, m.loss, m.nich, m.st, m.book, m.undos, m.imgs, m.kept, yHeH m k p nn th, yHeM m k p nn th, m.trail, m.pos, m.wrong, m.items, m.rp, m.rl, m.sl, m.rn, m.read)) sz.heap := by
          rw [yHeH, yHeM] <;> (first | rw [if_pos c_1, if_pos c_1] | rw [if_neg c_1, if_neg c_1] | rw [if_neg (by rw [c_1]; decide), if_neg (by rw [c_1]; decide)] | skip) <;> (first | rw [if_pos c_2, if_pos c_2] | rw [if_neg c_2, if_neg c_2] | rw [if_neg (by rw [c_2]; decide), if_neg (by rw [c_2]; decide)] | skip) <;> (first | rw [if_pos c_3, if_pos c_3] | rw [if_neg c_3, if_neg c_3] | rw [if_neg (by rw [c_3]; decide), if_neg (by rw [c_3]; decide)] | skip)
          exact hP
        exact g_wi hx hb hr hlocks hAe hP hS dX5_hears_28 (by rw [yHeR] <;> (first | done | rw [if_pos c_1] | rw [if_neg c_1] | rw [if_neg (by rw [c_1]; decide)] | skip) <;> (first | done | rw [if_pos c_2] | rw [if_neg c_2] | rw [if_neg (by rw [c_2]; decide)] | skip) <;> (first | done | rw [if_pos c_3] | rw [if_neg c_3] | rw [if_neg (by rw [c_3]; decide)] | skip) <;> (first | done | rfl | (simp only [c_1, c_2, c_3]; rfl) | (simp [c_1, c_2, c_3, bI]; done)))

theorem i_X5_forget_X5 : ∀ w ∈ wsX50, w ∈ wsX5_forget := by decide +kernel
theorem h_X5_forget : yX5_forget.cls = RX5 ∧ yX5_forget.cls ≠ "java/lang/invoke/MethodHandle" ∧ yX5_forget.cls ≠ "java/lang/invoke/VarHandle" ∧ (parseMethodDescriptor yX5_forget.desc).map (fun d => d.parameters.length) = some 0 := by decide +kernel
set_option maxHeartbeats 4000000 in
set_option maxRecDepth 100000 in
theorem c_X5_forget (lz : Launch) (G : gG) (a : Nat → Nat) (m : MdS)  : gWr lz yX5_forget wsX5_forget 0 G [.ref (a 0)] (wMd a G.2.1 G.2.2.1 m) (wMd a G.2.1 G.2.2.1 (m.text, m.len, m.pl, m.loss, m.nich, m.st, m.book, m.undos, m.imgs, m.kept, m.heard, 0, m.trail, m.pos, m.wrong, m.items, m.rp, m.rl, m.sl, m.rn, m.read)) (some (.int m.hm)) := by
  refine g_wr (by decide) rfl (Nat.le_of_ble_eq_true rfl) ?_
  intro pz ez sz mz bz tz cz hx hb hr hml hown hts hlocks hK A hAe hP hD hS ls hl
  have hl : lv_has ls 2 [(0, .ref (a 0))] := hl
  have f98 := hts (.fieldLink RX5 98 "WhisperRingModel" "heardMany" "I") (by decide +kernel)
  refine lv_aload_n hx hb dX5_forget_0 rfl (lv_at hl 0 rfl) ?_
  refine va_get (D := G.1) (ci := 5) (v := .int m.hm) (C := RX5) (T := TX5) (N := 21) hx hb hts i_X5_forget_X5 hown hK.1 hP 0 rfl rfl 11 (by decide) f98 (fun _ h9 => h9) rfl dX5_forget_1 ?_
  refine lv_istore_n (lv' := [(1, .int m.hm), (0, .ref (a 0))]) hx hb dX5_forget_4 rfl hl (by decide) rfl (fun ls hl => ?_)
  refine lv_aload_n hx hb dX5_forget_5 rfl (lv_at hl 1 rfl) ?_
  refine lv_iconst (v := 0) hx hb dX5_forget_6 (by decide) ?_
  refine va_put (D := G.1) (ci := 5) (v := .int 0) (ty := .int) (C := RX5) (T := TX5) (N := 21) hx hb hts i_X5_forget_X5 tyX5 tyX5_ok nmX5 hown hK.1 hP hD hS 0 rfl rfl 11 (by decide) f98 (fun _ h9 => h9) rfl (by decide +kernel) rfl rfl (Nat.le_of_ble_eq_true rfl) dX5_forget_7 (fun H locs hP hD hS => ?_)
  have hP : va_P G.1 vwCl (wMd a G.2.1 G.2.2.1 (m.text, m.len, m.pl, m.loss, m.nich, m.st, m.book, m.undos, m.imgs, m.kept, m.heard, 0, m.trail, m.pos, m.wrong, m.items, m.rp, m.rl, m.sl, m.rn, m.read)) H := hP
  have hD : va_D A (wMd a G.2.1 G.2.2.1 (m.text, m.len, m.pl, m.loss, m.nich, m.st, m.book, m.undos, m.imgs, m.kept, m.heard, 0, m.trail, m.pos, m.wrong, m.items, m.rp, m.rl, m.sl, m.rn, m.read)) := hD
  refine lv_iload_n hx hb dX5_forget_10 rfl (lv_at hl 0 rfl) ?_
  exact g_wi hx hb hr hlocks hAe hP hS dX5_forget_11 rfl

theorem h_X5_guessAt : yX5_guessAt.cls = RX5 ∧ yX5_guessAt.cls ≠ "java/lang/invoke/MethodHandle" ∧ yX5_guessAt.cls ≠ "java/lang/invoke/VarHandle" ∧ (parseMethodDescriptor yX5_guessAt.desc).map (fun d => d.parameters.length) = some 2 := by decide +kernel
set_option maxHeartbeats 4000000 in
set_option maxRecDepth 100000 in
theorem c_X5_guessAt (lz : Launch) (G : gG) (a : Nat → Nat) (m : MdS) (g t : Int32) (hpl : ¬ m.pl = 0) : gRd lz yX5_guessAt wsX5_guessAt 2 G [.ref (a 0), .int g, .int t] (wMd a G.2.1 G.2.2.1 m) (dGa m g t) := by
  refine g_rd (by decide) rfl (Nat.le_of_ble_eq_true rfl) ?_
  intro pz ez sz mz bz tz cz hx hb hr hml hown hts hlocks hP hK ls hl
  have hl : lv_has ls 3 [(0, .ref (a 0)), (1, .int g), (2, .int t)] := hl
  refine lv_aload_n hx hb dX5_guessAt_0 rfl (lv_at hl 0 rfl) ?_
  refine lv_iload_n hx hb dX5_guessAt_1 rfl (lv_at hl 1 rfl) ?_
  refine lv_bipush (v := 12) hx hb dX5_guessAt_2 (by decide) ?_
  refine lv_idiv hx hb dX5_guessAt_4 (by decide) ?_
  refine lv_iload_n hx hb dX5_guessAt_5 rfl (lv_at hl 1 rfl) ?_
  refine lv_iconst (v := 2) hx hb dX5_guessAt_6 (by decide) ?_
  refine lv_idiv hx hb dX5_guessAt_7 (by decide) ?_
  refine lv_bipush (v := 6) hx hb dX5_guessAt_8 (by decide) ?_
  refine lv_irem hx hb dX5_guessAt_10 (by decide) ?_
  refine lv_iconst (v := 1) hx hb dX5_guessAt_11 (by decide) ?_
  refine lv_iadd hx hb dX5_guessAt_12 ?_
  refine lv_iload_n hx hb dX5_guessAt_13 rfl (lv_at hl 1 rfl) ?_
  refine lv_iconst (v := 2) hx hb dX5_guessAt_14 (by decide) ?_
  refine lv_irem hx hb dX5_guessAt_15 (by decide) ?_
  refine lv_iload_n hx hb dX5_guessAt_16 rfl (lv_at hl 2 rfl) ?_
  refine g_rdV (As := [.int (g / 12), .int (((g / 2) - (g / 2) / 6 * 6) + 1), .int (g - g / 2 * 2), .int t]) (rest := []) (nL := 3) hx hb hml hown hts (c_X5_placeBy lz G a m (g / 12) (((g / 2) - (g / 2) / 6 * 6) + 1) (g - g / 2 * 2) t hpl) gX5_guessAt_X5_placeBy rfl h_X5_placeBy ⟨Nat.le_of_ble_eq_true rfl, Nat.le_of_ble_eq_true rfl⟩ hK hP (ci := 5) rfl rfl rfl rfl hl.1 rfl (Nat.le_of_ble_eq_true rfl) ⟨Nat.le_refl _, Nat.le_refl _⟩ dX5_guessAt_17 ?_
  exact g_ri hx hb hr hlocks dX5_guessAt_20 rfl

theorem i_X5_fits_X5 : ∀ w ∈ wsX50, w ∈ wsX5_fits := by decide +kernel
theorem h_X5_fits : yX5_fits.cls = RX5 ∧ yX5_fits.cls ≠ "java/lang/invoke/MethodHandle" ∧ yX5_fits.cls ≠ "java/lang/invoke/VarHandle" ∧ (parseMethodDescriptor yX5_fits.desc).map (fun d => d.parameters.length) = some 1 := by decide +kernel
set_option maxHeartbeats 4000000 in
set_option maxRecDepth 100000 in
theorem c_X5_fits (lz : Launch) (G : gG) (a : Nat → Nat) (m : MdS) (k : Nat) (g : Int32) (hk : m.hm = nI k) (hk6 : k ≤ 6) (hpl : ¬ m.pl = 0) : gRd lz yX5_fits wsX5_fits 3 G [.ref (a 0), .int g] (wMd a G.2.1 G.2.2.1 m) (bI (dFit m k g)) := by
  refine g_rd (by decide) rfl (Nat.le_of_ble_eq_true rfl) ?_
  intro pz ez sz mz bz tz cz hx hb hr hml hown hts hlocks hP hK ls hl
  have hl : lv_has ls 4 [(0, .ref (a 0)), (1, .int g)] := hl
  have f33 := hts (.fieldLink RX5 33 "WhisperRingModel" "heard" "[I") (by decide +kernel)
  have f98 := hts (.fieldLink RX5 98 "WhisperRingModel" "heardMany" "I") (by decide +kernel)
  refine lv_iconst (v := 1) hx hb dX5_fits_0 (by decide) ?_
  refine lv_istore_n (lv' := [(2, .int 1), (0, .ref (a 0)), (1, .int g)]) hx hb dX5_fits_1 rfl hl (by decide) rfl (fun ls hl => ?_)
  refine lv_iconst (v := 0) hx hb dX5_fits_2 (by decide) ?_
  refine lv_istore_n (lv' := [(3, .int 0), (2, .int 1), (0, .ref (a 0)), (1, .int g)]) hx hb dX5_fits_3 rfl hl (by decide) rfl (fun ls hl => ?_)
  have lp_4 : ∀ (fu_4 : Nat) (i : Nat) (b : Bool), (i ≤ k) → (b = allOf (fun i => decide (dGa m g (m.heard (3 * i + 1)) = m.heard (3 * i)) == decide (m.heard (3 * i + 2) = 1)) i) → k - i < fu_4 → ∀ ls : Array Slot, lv_has ls 4 [(0, .ref (a 0)), (1, .int g), (2, .int (bI b)), (3, .int (nI i))] → W pz lz ez (gRm 3) sz mz ([.ref (a 0), .int g] : List Value).toArray bz tz cz sz.heap [] 0 0 (MQ bz (vp_Si (fun xx_ => xx_ = bI (dFit m k g))) ([.ref (a 0), .int g] : List Value).toArray sz 0 0 (fun _ => False)) (F0 mz 4 ls []) := by
    intro fu_4
    induction fu_4 with
    | zero =>
      intro i b hi he hf_4
      exact absurd hf_4 (Nat.not_lt_zero _)
    | succ fu_4 ih_4 =>
      intro i b hi he hf_4 ls hl
      refine lv_iload_n hx hb dX5_fits_4 rfl (lv_at hl 3 rfl) ?_
      refine lv_aload_n hx hb dX5_fits_5 rfl (lv_at hl 0 rfl) ?_
      refine va_get (D := G.1) (ci := 5) (v := .int m.hm) (C := RX5) (T := TX5) (N := 21) hx hb hts i_X5_fits_X5 hown hK.1 hP 0 rfl rfl 11 (by decide) f98 (fun _ h9 => h9) rfl dX5_fits_6 ?_
      refine lv_icmp_ge (tgt := 81) hx hb dX5_fits_9 (by decide) (fun c_1 => ?_) (fun c_1 => ?_)
      · skip
        have c_1 := gl_le c_1
        have hx2 : k ≤ i := gl_ex hk (by omega) (by omega) c_1
        refine lv_iload_n hx hb dX5_fits_81 rfl (lv_at hl 2 rfl) ?_
        exact g_rz hx hb hr hlocks dX5_fits_82 (by rw [he, show i = k by omega]; rfl)
      · skip
        have c_1 := gl_nle c_1
        have hlt : i < k := gl_in hk (by omega) (by omega) c_1
        refine lv_iload_n hx hb dX5_fits_12 rfl (lv_at hl 2 rfl) ?_
        refine lv_if_eq (tgt := 73) hx hb dX5_fits_13 (by decide) (fun c_2 => ?_) (fun c_2 => ?_)
        · skip
          have c_2 := bI_0 c_2
          refine lv_iconst (v := 0) hx hb dX5_fits_73 (by decide) ?_
          refine lv_istore_n (lv' := [(2, .int 0), (0, .ref (a 0)), (1, .int g), (3, .int (nI i))]) hx hb dX5_fits_74 rfl hl (by decide) rfl (fun ls hl => ?_)
          refine lv_iinc (v := nI (i + 1)) (lv' := [(3, .int (nI (i + 1))), (2, .int 0), (0, .ref (a 0)), (1, .int g)]) hx hb dX5_fits_75 hl (k := 3) rfl (nI_1 i) (by decide) rfl (fun ls hl => ?_)
          refine lv_goto (tgt := 4) hx hb dX5_fits_78 (by decide) ?_
          exact ih_4 (i + 1) false hlt (by rw [allOf, ← he]; simp [c_2, bI]) (by omega) ls (lv_sub hl [2, 3, 1, 0] rfl)
        · skip
          have c_2 := bI_1 c_2
          refine lv_aload_n hx hb dX5_fits_16 rfl (lv_at hl 0 rfl) ?_
          refine lv_iload_n hx hb dX5_fits_17 rfl (lv_at hl 1 rfl) ?_
          refine lv_aload_n hx hb dX5_fits_18 rfl (lv_at hl 0 rfl) ?_
          refine va_get (D := G.1) (ci := 5) (v := .ref (a 6)) (C := RX5) (T := TX5) (N := 21) hx hb hts i_X5_fits_X5 hown hK.1 hP 0 rfl rfl 10 (by decide) f33 (fun _ h9 => h9) rfl dX5_fits_19 ?_
          refine lv_iconst (v := 3) hx hb dX5_fits_22 (by decide) ?_
          refine lv_iload_n hx hb dX5_fits_23 rfl (lv_at hl 3 rfl) ?_
          refine lv_imul hx hb dX5_fits_24 ?_
          refine g_top (y := nI (3 * i)) (pk_mul 3 i) ?_
          refine lv_iconst (v := 1) hx hb dX5_fits_25 (by decide) ?_
          refine lv_iadd hx hb dX5_fits_26 ?_
          refine g_top (y := nI ((3 * i) + 1)) (nI_add (3 * i) 1) ?_
          refine g_iald hx hb hK.1 hP 6 0 rfl rfl (i := ((3 * i) + 1)) (by omega) (by decide) dX5_fits_27 ?_
          refine g_rdV (As := [.int g, .int (m.heard ((3 * i) + 1))]) (rest := []) (nL := 4) hx hb hml hown hts (c_X5_guessAt lz G a m g (m.heard ((3 * i) + 1)) hpl) gX5_fits_X5_guessAt rfl h_X5_guessAt ⟨Nat.le_of_ble_eq_true rfl, Nat.le_of_ble_eq_true rfl⟩ hK hP (ci := 5) rfl rfl rfl rfl hl.1 rfl (Nat.le_of_ble_eq_true rfl) ⟨Nat.le_refl _, Nat.le_refl _⟩ dX5_fits_28 ?_
          refine lv_aload_n hx hb dX5_fits_31 rfl (lv_at hl 0 rfl) ?_
          refine va_get (D := G.1) (ci := 5) (v := .ref (a 6)) (C := RX5) (T := TX5) (N := 21) hx hb hts i_X5_fits_X5 hown hK.1 hP 0 rfl rfl 10 (by decide) f33 (fun _ h9 => h9) rfl dX5_fits_32 ?_
          refine lv_iconst (v := 3) hx hb dX5_fits_35 (by decide) ?_
          refine lv_iload_n hx hb dX5_fits_36 rfl (lv_at hl 3 rfl) ?_
          refine lv_imul hx hb dX5_fits_37 ?_
          refine g_top (y := nI (3 * i)) (pk_mul 3 i) ?_
          refine g_iald hx hb hK.1 hP 6 0 rfl rfl (i := (3 * i)) (by omega) (by decide) dX5_fits_38 ?_
          refine lv_icmp_ne (tgt := 46) hx hb dX5_fits_39 (by decide) (fun c_3 => ?_) (fun c_3 => ?_)
          · skip
            refine lv_iconst (v := 0) hx hb dX5_fits_46 (by decide) ?_
            refine lv_aload_n hx hb dX5_fits_47 rfl (lv_at hl 0 rfl) ?_
            refine va_get (D := G.1) (ci := 5) (v := .ref (a 6)) (C := RX5) (T := TX5) (N := 21) hx hb hts i_X5_fits_X5 hown hK.1 hP 0 rfl rfl 10 (by decide) f33 (fun _ h9 => h9) rfl dX5_fits_48 ?_
            refine lv_iconst (v := 3) hx hb dX5_fits_51 (by decide) ?_
            refine lv_iload_n hx hb dX5_fits_52 rfl (lv_at hl 3 rfl) ?_
            refine lv_imul hx hb dX5_fits_53 ?_
            refine g_top (y := nI (3 * i)) (pk_mul 3 i) ?_
            refine lv_iconst (v := 2) hx hb dX5_fits_54 (by decide) ?_
            refine lv_iadd hx hb dX5_fits_55 ?_
            refine g_top (y := nI ((3 * i) + 2)) (nI_add (3 * i) 2) ?_
            refine g_iald hx hb hK.1 hP 6 0 rfl rfl (i := ((3 * i) + 2)) (by omega) (by decide) dX5_fits_56 ?_
            refine lv_iconst (v := 1) hx hb dX5_fits_57 (by decide) ?_
            refine lv_icmp_ne (tgt := 65) hx hb dX5_fits_58 (by decide) (fun c_4 => ?_) (fun c_4 => ?_)
            · skip
              refine lv_iconst (v := 0) hx hb dX5_fits_65 (by decide) ?_
              refine lv_icmp_ne (tgt := 73) hx hb dX5_fits_66 (by decide) (fun c_5 => False.elim (by revert c_5; decide)) (fun c_5 => ?_)
              refine lv_iconst (v := 1) hx hb dX5_fits_69 (by decide) ?_
              refine lv_goto (tgt := 74) hx hb dX5_fits_70 (by decide) ?_
              refine lv_istore_n (lv' := [(2, .int 1), (0, .ref (a 0)), (1, .int g), (3, .int (nI i))]) hx hb dX5_fits_74 rfl hl (by decide) rfl (fun ls hl => ?_)
              refine lv_iinc (v := nI (i + 1)) (lv' := [(3, .int (nI (i + 1))), (2, .int 1), (0, .ref (a 0)), (1, .int g)]) hx hb dX5_fits_75 hl (k := 3) rfl (nI_1 i) (by decide) rfl (fun ls hl => ?_)
              refine lv_goto (tgt := 4) hx hb dX5_fits_78 (by decide) ?_
              exact ih_4 (i + 1) true hlt (by rw [allOf, ← he]; simp [c_2, c_3, c_4, bI]) (by omega) ls (lv_sub hl [2, 3, 1, 0] rfl)
            · skip
              refine lv_iconst (v := 1) hx hb dX5_fits_61 (by decide) ?_
              refine lv_goto (tgt := 66) hx hb dX5_fits_62 (by decide) ?_
              refine lv_icmp_ne (tgt := 73) hx hb dX5_fits_66 (by decide) (fun c_6 => ?_) (fun c_6 => False.elim (by revert c_6; decide))
              refine lv_iconst (v := 0) hx hb dX5_fits_73 (by decide) ?_
              refine lv_istore_n (lv' := [(2, .int 0), (0, .ref (a 0)), (1, .int g), (3, .int (nI i))]) hx hb dX5_fits_74 rfl hl (by decide) rfl (fun ls hl => ?_)
              refine lv_iinc (v := nI (i + 1)) (lv' := [(3, .int (nI (i + 1))), (2, .int 0), (0, .ref (a 0)), (1, .int g)]) hx hb dX5_fits_75 hl (k := 3) rfl (nI_1 i) (by decide) rfl (fun ls hl => ?_)
              refine lv_goto (tgt := 4) hx hb dX5_fits_78 (by decide) ?_
              exact ih_4 (i + 1) false hlt (by rw [allOf, ← he]; simp [c_2, c_3, c_4, bI]) (by omega) ls (lv_sub hl [2, 3, 1, 0] rfl)
          · skip
            refine lv_iconst (v := 1) hx hb dX5_fits_42 (by decide) ?_
            refine lv_goto (tgt := 47) hx hb dX5_fits_43 (by decide) ?_
            refine lv_aload_n hx hb dX5_fits_47 rfl (lv_at hl 0 rfl) ?_
            refine va_get (D := G.1) (ci := 5) (v := .ref (a 6)) (C := RX5) (T := TX5) (N := 21) hx hb hts i_X5_fits_X5 hown hK.1 hP 0 rfl rfl 10 (by decide) f33 (fun _ h9 => h9) rfl dX5_fits_48 ?_
            refine lv_iconst (v := 3) hx hb dX5_fits_51 (by decide) ?_
            refine lv_iload_n hx hb dX5_fits_52 rfl (lv_at hl 3 rfl) ?_
            refine lv_imul hx hb dX5_fits_53 ?_
            refine g_top (y := nI (3 * i)) (pk_mul 3 i) ?_
            refine lv_iconst (v := 2) hx hb dX5_fits_54 (by decide) ?_
            refine lv_iadd hx hb dX5_fits_55 ?_
            refine g_top (y := nI ((3 * i) + 2)) (nI_add (3 * i) 2) ?_
            refine g_iald hx hb hK.1 hP 6 0 rfl rfl (i := ((3 * i) + 2)) (by omega) (by decide) dX5_fits_56 ?_
            refine lv_iconst (v := 1) hx hb dX5_fits_57 (by decide) ?_
            refine lv_icmp_ne (tgt := 65) hx hb dX5_fits_58 (by decide) (fun c_7 => ?_) (fun c_7 => ?_)
            · skip
              refine lv_iconst (v := 0) hx hb dX5_fits_65 (by decide) ?_
              refine lv_icmp_ne (tgt := 73) hx hb dX5_fits_66 (by decide) (fun c_8 => ?_) (fun c_8 => False.elim (by revert c_8; decide))
              refine lv_iconst (v := 0) hx hb dX5_fits_73 (by decide) ?_
              refine lv_istore_n (lv' := [(2, .int 0), (0, .ref (a 0)), (1, .int g), (3, .int (nI i))]) hx hb dX5_fits_74 rfl hl (by decide) rfl (fun ls hl => ?_)
              refine lv_iinc (v := nI (i + 1)) (lv' := [(3, .int (nI (i + 1))), (2, .int 0), (0, .ref (a 0)), (1, .int g)]) hx hb dX5_fits_75 hl (k := 3) rfl (nI_1 i) (by decide) rfl (fun ls hl => ?_)
              refine lv_goto (tgt := 4) hx hb dX5_fits_78 (by decide) ?_
              exact ih_4 (i + 1) false hlt (by rw [allOf, ← he]; simp [c_2, c_3, c_7, bI]) (by omega) ls (lv_sub hl [2, 3, 1, 0] rfl)
            · skip
              refine lv_iconst (v := 1) hx hb dX5_fits_61 (by decide) ?_
              refine lv_goto (tgt := 66) hx hb dX5_fits_62 (by decide) ?_
              refine lv_icmp_ne (tgt := 73) hx hb dX5_fits_66 (by decide) (fun c_9 => False.elim (by revert c_9; decide)) (fun c_9 => ?_)
              refine lv_iconst (v := 1) hx hb dX5_fits_69 (by decide) ?_
              refine lv_goto (tgt := 74) hx hb dX5_fits_70 (by decide) ?_
              refine lv_istore_n (lv' := [(2, .int 1), (0, .ref (a 0)), (1, .int g), (3, .int (nI i))]) hx hb dX5_fits_74 rfl hl (by decide) rfl (fun ls hl => ?_)
              refine lv_iinc (v := nI (i + 1)) (lv' := [(3, .int (nI (i + 1))), (2, .int 1), (0, .ref (a 0)), (1, .int g)]) hx hb dX5_fits_75 hl (k := 3) rfl (nI_1 i) (by decide) rfl (fun ls hl => ?_)
              refine lv_goto (tgt := 4) hx hb dX5_fits_78 (by decide) ?_
              exact ih_4 (i + 1) true hlt (by rw [allOf, ← he]; simp [c_2, c_3, c_7, bI]) (by omega) ls (lv_sub hl [2, 3, 1, 0] rfl)
  exact lp_4 ((k - 0) + 1) 0 true (Nat.zero_le _) rfl (Nat.lt_succ_self _) ls (lv_sub hl [2, 3, 1, 0] rfl)

theorem i_X5_guesses_X5 : ∀ w ∈ wsX50, w ∈ wsX5_guesses := by decide +kernel
theorem h_X5_guesses : yX5_guesses.cls = RX5 ∧ yX5_guesses.cls ≠ "java/lang/invoke/MethodHandle" ∧ yX5_guesses.cls ≠ "java/lang/invoke/VarHandle" ∧ (parseMethodDescriptor yX5_guesses.desc).map (fun d => d.parameters.length) = some 1 := by decide +kernel
set_option maxHeartbeats 4000000 in
set_option maxRecDepth 100000 in
theorem c_X5_guesses (lz : Launch) (G : gG) (a : Nat → Nat) (m : MdS) (k N : Nat) (what : Int32) (hk : m.hm = nI k) (hk6 : k ≤ 6) (hN : m.pl = nI N) (hN24 : N ≤ 24) (hpl : ¬ m.pl = 0) : gRd lz yX5_guesses wsX5_guesses 4 G [.ref (a 0), .int what] (wMd a G.2.1 G.2.2.1 m) (yGuR m k N what) := by
  refine g_rd (by decide) rfl (Nat.le_of_ble_eq_true rfl) ?_
  intro pz ez sz mz bz tz cz hx hb hr hml hown hts hlocks hP hK ls hl
  have hl : lv_has ls 5 [(0, .ref (a 0)), (1, .int what)] := hl
  have f13 := hts (.fieldLink RX5 13 "WhisperRingModel" "places" "I") (by decide +kernel)
  refine lv_iload_n hx hb dX5_guesses_0 rfl (lv_at hl 1 rfl) ?_
  refine lv_iconst (v := 0) hx hb dX5_guesses_1 (by decide) ?_
  refine lv_iconst (v := 1) hx hb dX5_guesses_2 (by decide) ?_
  refine g_rdS (As := [.int what, .int 0, .int 1]) (rest := []) (nL := 5) hx hb hml hown hts (c_X5_in lz G what 0 1) gX5_guesses_X5_in rfl h_X5_in ⟨Nat.le_of_ble_eq_true rfl, Nat.le_of_ble_eq_true rfl⟩ hK gP_nil rfl hl.1 rfl (Nat.le_of_ble_eq_true rfl) ⟨Nat.le_refl _, Nat.le_refl _⟩ dX5_guesses_3 ?_
  refine lv_if_ne (tgt := 11) hx hb dX5_guesses_6 (by decide) (fun c_1 => ?_) (fun c_1 => ?_)
  · skip
    have c_1 := bI_1 c_1
    refine lv_iconst (v := 0) hx hb dX5_guesses_11 (by decide) ?_
    refine lv_istore_n (lv' := [(2, .int 0), (0, .ref (a 0)), (1, .int what)]) hx hb dX5_guesses_12 rfl hl (by decide) rfl (fun ls hl => ?_)
    refine lv_bipush (v := (-9)) hx hb dX5_guesses_13 (by decide) ?_
    refine lv_istore_n (lv' := [(3, .int (-9)), (2, .int 0), (0, .ref (a 0)), (1, .int what)]) hx hb dX5_guesses_15 rfl hl (by decide) rfl (fun ls hl => ?_)
    refine lv_bipush (v := 12) hx hb dX5_guesses_16 (by decide) ?_
    refine lv_aload_n hx hb dX5_guesses_18 rfl (lv_at hl 2 rfl) ?_
    refine va_get (D := G.1) (ci := 5) (v := .int m.pl) (C := RX5) (T := TX5) (N := 21) hx hb hts i_X5_guesses_X5 hown hK.1 hP 0 rfl rfl 2 (by decide) f13 (fun _ h9 => h9) rfl dX5_guesses_19 ?_
    refine g_top (y := nI N) (hN) ?_
    refine lv_imul hx hb dX5_guesses_22 ?_
    refine g_top (y := nI (12 * N)) (pk_mul 12 N) ?_
    refine lv_iconst (v := 1) hx hb dX5_guesses_23 (by decide) ?_
    refine lv_isub hx hb dX5_guesses_24 ?_
    refine lv_istore (lv' := [(4, .int ((nI (12 * N)) - 1)), (3, .int (-9)), (2, .int 0), (0, .ref (a 0)), (1, .int what)]) hx hb dX5_guesses_25 hl (by decide) rfl (fun ls hl => ?_)
    have lp_27 : ∀ (fu_27 : Nat) (j : Nat) (x : Int32) (y : Nat), (j ≤ 12 * N) → (x = guM (firstF (fun g => dFit m k (nI g)) (12 * N - j) j)) → (y = cF (fun g => dFit m k (nI g)) (12 * N - j) j) → j < fu_27 → ∀ ls : Array Slot, lv_has ls 5 [(0, .ref (a 0)), (1, .int what), (2, .int (nI y)), (3, .int x), (4, .int (nI j - 1))] → W pz lz ez (gRm 4) sz mz ([.ref (a 0), .int what] : List Value).toArray bz tz cz sz.heap [] 0 0 (MQ bz (vp_Si (fun xx_ => xx_ = yGuR m k N what)) ([.ref (a 0), .int what] : List Value).toArray sz 0 0 (fun _ => False)) (F0 mz 27 ls []) := by
      intro fu_27
      induction fu_27 with
      | zero =>
        intro j x y hj0 hac hac2 hf_27
        exact absurd hf_27 (Nat.not_lt_zero _)
      | succ fu_27 ih_27 =>
        intro j x y hj0 hac hac2 hf_27 ls hl
        refine lv_iload hx hb dX5_guesses_27 (lv_at hl 4 rfl) ?_
        refine lv_if_lt (tgt := 77) hx hb dX5_guesses_29 (by decide) (fun c_2 => ?_) (fun c_2 => ?_)
        · skip
          have hx2 : j = 0 := gl_d0 c_2 (by omega)
          refine lv_iload_n hx hb dX5_guesses_77 rfl (lv_at hl 1 rfl) ?_
          refine lv_if_ne (tgt := 85) hx hb dX5_guesses_78 (by decide) (fun c_3 => ?_) (fun c_3 => ?_)
          · skip
            refine lv_iload_n hx hb dX5_guesses_85 rfl (lv_at hl 3 rfl) ?_
            exact g_ri hx hb hr hlocks dX5_guesses_86 (by rw [yGuR] <;> (first | done | rw [if_pos c_1] | rw [if_neg c_1] | rw [if_neg (by rw [c_1]; decide)] | skip) <;> (first | done | rw [if_pos c_2] | rw [if_neg c_2] | rw [if_neg (by rw [c_2]; decide)] | skip) <;> (first | done | rw [if_pos c_3] | rw [if_neg c_3] | rw [if_neg (by rw [c_3]; decide)] | skip) <;> (first | done | (rw [hac, hx2])))
          · skip
            refine lv_iload_n hx hb dX5_guesses_81 rfl (lv_at hl 2 rfl) ?_
            refine lv_goto (tgt := 86) hx hb dX5_guesses_82 (by decide) ?_
            exact g_ri hx hb hr hlocks dX5_guesses_86 (by rw [yGuR] <;> (first | done | rw [if_pos c_1] | rw [if_neg c_1] | rw [if_neg (by rw [c_1]; decide)] | skip) <;> (first | done | rw [if_pos c_2] | rw [if_neg c_2] | rw [if_neg (by rw [c_2]; decide)] | skip) <;> (first | done | rw [if_pos c_3] | rw [if_neg c_3] | rw [if_neg (by rw [c_3]; decide)] | skip) <;> (first | done | (rw [hac2, hx2])))
        · skip
          have hj1 : 1 ≤ j := gl_d1 c_2
          refine lv_aload_n hx hb dX5_guesses_32 rfl (lv_at hl 0 rfl) ?_
          refine lv_iload hx hb dX5_guesses_33 (lv_at hl 4 rfl) ?_
          refine g_top (y := nI (j - 1)) (gl_dj hj1) ?_
          refine g_rdV (As := [.int (nI (j - 1))]) (rest := []) (nL := 5) hx hb hml hown hts (c_X5_fits lz G a m k (nI (j - 1)) hk hk6 hpl) gX5_guesses_X5_fits rfl h_X5_fits ⟨Nat.le_of_ble_eq_true rfl, Nat.le_of_ble_eq_true rfl⟩ hK hP (ci := 5) rfl rfl rfl rfl hl.1 rfl (Nat.le_of_ble_eq_true rfl) ⟨Nat.le_refl _, Nat.le_refl _⟩ dX5_guesses_35 ?_
          refine lv_if_eq (tgt := 71) hx hb dX5_guesses_38 (by decide) (fun c_4 => ?_) (fun c_4 => ?_)
          · skip
            have c_4 := bI_0 c_4
            refine lv_iinc (v := nI (j - 1) - 1) (lv' := [(4, .int (nI (j - 1) - 1)), (0, .ref (a 0)), (1, .int what), (2, .int (nI y)), (3, .int x)]) hx hb dX5_guesses_71 hl (k := 4) rfl (gl_di hj1) (by decide) rfl (fun ls hl => ?_)
            refine lv_goto (tgt := 27) hx hb dX5_guesses_74 (by decide) ?_
            exact ih_27 (j - 1) x y (by omega) (gD_n hj1 (by omega) hac (by simp [c_4])) (cD_n hj1 (by omega) hac2 (by simp [c_4])) (by omega) ls (lv_sub hl [1, 2, 3, 4, 0] rfl)
          · skip
            have c_4 := bI_1 c_4
            refine lv_iinc (v := nI (y + 1)) (lv' := [(2, .int (nI (y + 1))), (0, .ref (a 0)), (1, .int what), (3, .int x), (4, .int (nI j - 1))]) hx hb dX5_guesses_41 hl (k := 2) rfl (nI_1 y) (by decide) rfl (fun ls hl => ?_)
            refine lv_bipush (v := 100) hx hb dX5_guesses_44 (by decide) ?_
            refine lv_iload hx hb dX5_guesses_46 (lv_at hl 4 rfl) ?_
            refine g_top (y := nI (j - 1)) (gl_dj hj1) ?_
            refine lv_bipush (v := 12) hx hb dX5_guesses_48 (by decide) ?_
            refine lv_idiv hx hb dX5_guesses_50 (by decide) ?_
            refine lv_imul hx hb dX5_guesses_51 ?_
            refine lv_bipush (v := 10) hx hb dX5_guesses_52 (by decide) ?_
            refine lv_iload hx hb dX5_guesses_54 (lv_at hl 4 rfl) ?_
            refine g_top (y := nI (j - 1)) (gl_dj hj1) ?_
            refine lv_iconst (v := 2) hx hb dX5_guesses_56 (by decide) ?_
            refine lv_idiv hx hb dX5_guesses_57 (by decide) ?_
            refine lv_bipush (v := 6) hx hb dX5_guesses_58 (by decide) ?_
            refine lv_irem hx hb dX5_guesses_60 (by decide) ?_
            refine lv_iconst (v := 1) hx hb dX5_guesses_61 (by decide) ?_
            refine lv_iadd hx hb dX5_guesses_62 ?_
            refine lv_imul hx hb dX5_guesses_63 ?_
            refine lv_iadd hx hb dX5_guesses_64 ?_
            refine lv_iload hx hb dX5_guesses_65 (lv_at hl 4 rfl) ?_
            refine g_top (y := nI (j - 1)) (gl_dj hj1) ?_
            refine lv_iconst (v := 2) hx hb dX5_guesses_67 (by decide) ?_
            refine lv_irem hx hb dX5_guesses_68 (by decide) ?_
            refine lv_iadd hx hb dX5_guesses_69 ?_
            refine lv_istore_n (lv' := [(3, .int (((100 * ((nI (j - 1)) / 12)) + (10 * ((((nI (j - 1)) / 2) - ((nI (j - 1)) / 2) / 6 * 6) + 1))) + ((nI (j - 1)) - (nI (j - 1)) / 2 * 2))), (2, .int (nI (y + 1))), (0, .ref (a 0)), (1, .int what), (4, .int (nI j - 1))]) hx hb dX5_guesses_70 rfl hl (by decide) rfl (fun ls hl => ?_)
            refine lv_iinc (v := nI (j - 1) - 1) (lv' := [(4, .int (nI (j - 1) - 1)), (3, .int (((100 * ((nI (j - 1)) / 12)) + (10 * ((((nI (j - 1)) / 2) - ((nI (j - 1)) / 2) / 6 * 6) + 1))) + ((nI (j - 1)) - (nI (j - 1)) / 2 * 2))), (2, .int (nI (y + 1))), (0, .ref (a 0)), (1, .int what)]) hx hb dX5_guesses_71 hl (k := 4) rfl (gl_di hj1) (by decide) rfl (fun ls hl => ?_)
            refine lv_goto (tgt := 27) hx hb dX5_guesses_74 (by decide) ?_
            exact ih_27 (j - 1) (((100 * ((nI (j - 1)) / 12)) + (10 * ((((nI (j - 1)) / 2) - ((nI (j - 1)) / 2) / 6 * 6) + 1))) + ((nI (j - 1)) - (nI (j - 1)) / 2 * 2)) (y + 1) (by omega) (gD_y hj1 (by omega) (by simp [c_4])) (cD_y hj1 (by omega) hac2 (by simp [c_4])) (by omega) ls (lv_sub hl [3, 4, 2, 1, 0] rfl)
    exact lp_27 ((12 * N) + 1) (12 * N) (-9) 0 (Nat.le_refl _) (by rw [Nat.sub_self]; rfl) (by rw [Nat.sub_self]; rfl) (Nat.lt_succ_self _) ls (lv_sub hl [3, 4, 2, 1, 0] rfl)
  · skip
    have c_1 := bI_0 c_1
    refine lv_iconst (v := (-1)) hx hb dX5_guesses_9 (by decide) ?_
    exact g_ri hx hb hr hlocks dX5_guesses_10 (by rw [yGuR] <;> (first | done | rw [if_pos c_1] | rw [if_neg c_1] | rw [if_neg (by rw [c_1]; decide)] | skip) <;> (first | done | rfl | (simp only [c_1]; rfl) | (simp [c_1, bI]; done)))

theorem i_X5_ask_X5 : ∀ w ∈ wsX50, w ∈ wsX5_ask := by decide +kernel
theorem h_X5_ask : yX5_ask.cls = RX5 ∧ yX5_ask.cls ≠ "java/lang/invoke/MethodHandle" ∧ yX5_ask.cls ≠ "java/lang/invoke/VarHandle" ∧ (parseMethodDescriptor yX5_ask.desc).map (fun d => d.parameters.length) = some 1 := by decide +kernel
set_option maxHeartbeats 4000000 in
set_option maxRecDepth 100000 in
theorem c_X5_ask (lz : Launch) (G : gG) (a : Nat → Nat) (m : MdS) (k N : Nat) (nn : Int32) (hk : m.hm = nI k) (hk6 : k ≤ 6) (hN : m.pl = nI N) (hN24 : N ≤ 24) (hpl : ¬ m.pl = 0) : gRd lz yX5_ask wsX5_ask 5 G [.ref (a 0), .int nn] (wMd a G.2.1 G.2.2.1 m) (yAsR m k N nn) := by
  refine g_rd (by decide) rfl (Nat.le_of_ble_eq_true rfl) ?_
  intro pz ez sz mz bz tz cz hx hb hr hml hown hts hlocks hP hK ls hl
  have hl : lv_has ls 8 [(0, .ref (a 0)), (1, .int nn)] := hl
  have f13 := hts (.fieldLink RX5 13 "WhisperRingModel" "places" "I") (by decide +kernel)
  refine lv_iload_n hx hb dX5_ask_0 rfl (lv_at hl 1 rfl) ?_
  refine lv_iconst (v := 0) hx hb dX5_ask_1 (by decide) ?_
  refine lv_bipush (v := 99) hx hb dX5_ask_2 (by decide) ?_
  refine g_rdS (As := [.int nn, .int 0, .int 99]) (rest := []) (nL := 8) hx hb hml hown hts (c_X5_in lz G nn 0 99) gX5_ask_X5_in rfl h_X5_in ⟨Nat.le_of_ble_eq_true rfl, Nat.le_of_ble_eq_true rfl⟩ hK gP_nil rfl hl.1 rfl (Nat.le_of_ble_eq_true rfl) ⟨Nat.le_refl _, Nat.le_refl _⟩ dX5_ask_4 ?_
  refine lv_if_ne (tgt := 12) hx hb dX5_ask_7 (by decide) (fun c_1 => ?_) (fun c_1 => ?_)
  · skip
    have c_1 := bI_1 c_1
    refine lv_aload_n hx hb dX5_ask_12 rfl (lv_at hl 0 rfl) ?_
    refine lv_iconst (v := 0) hx hb dX5_ask_13 (by decide) ?_
    refine g_rdV (As := [.int 0]) (rest := []) (nL := 8) hx hb hml hown hts (c_X5_guesses lz G a m k N 0 hk hk6 hN hN24 hpl) gX5_ask_X5_guesses rfl h_X5_guesses ⟨Nat.le_of_ble_eq_true rfl, Nat.le_of_ble_eq_true rfl⟩ hK hP (ci := 5) rfl rfl rfl rfl hl.1 rfl (Nat.le_of_ble_eq_true rfl) ⟨Nat.le_refl _, Nat.le_refl _⟩ dX5_ask_14 ?_
    refine lv_istore_n (lv' := [(2, .int (yGuR m k N 0)), (0, .ref (a 0)), (1, .int nn)]) hx hb dX5_ask_17 rfl hl (by decide) rfl (fun ls hl => ?_)
    refine lv_bipush (v := (-9)) hx hb dX5_ask_18 (by decide) ?_
    refine lv_istore_n (lv' := [(3, .int (-9)), (2, .int (yGuR m k N 0)), (0, .ref (a 0)), (1, .int nn)]) hx hb dX5_ask_20 rfl hl (by decide) rfl (fun ls hl => ?_)
    refine lv_iload_n hx hb dX5_ask_21 rfl (lv_at hl 1 rfl) ?_
    refine lv_istore (lv' := [(4, .int (yGuR m k N 0)), (3, .int (-9)), (2, .int (yGuR m k N 0)), (0, .ref (a 0)), (1, .int nn)]) hx hb dX5_ask_22 hl (by decide) rfl (fun ls hl => ?_)
    refine lv_iconst (v := 0) hx hb dX5_ask_24 (by decide) ?_
    refine lv_istore (lv' := [(5, .int 0), (4, .int (yGuR m k N 0)), (3, .int (-9)), (2, .int (yGuR m k N 0)), (0, .ref (a 0)), (1, .int nn)]) hx hb dX5_ask_25 hl (by decide) rfl (fun ls hl => ?_)
    have lp_27 : ∀ (fu_27 : Nat) (i : Nat) (u : Int32) (w : Int32), (i ≤ N) → (amL m k N nn (yGuR m k N 0) i = (u, w)) → N - i < fu_27 → ∀ ls : Array Slot, lv_has ls 8 [(0, .ref (a 0)), (1, .int nn), (2, .int (yGuR m k N 0)), (3, .int w), (4, .int u), (5, .int (nI i))] → W pz lz ez (gRm 5) sz mz ([.ref (a 0), .int nn] : List Value).toArray bz tz cz sz.heap [] 0 0 (MQ bz (vp_Si (fun xx_ => xx_ = yAsR m k N nn)) ([.ref (a 0), .int nn] : List Value).toArray sz 0 0 (fun _ => False)) (F0 mz 27 ls []) := by
      intro fu_27
      induction fu_27 with
      | zero =>
        intro i u w hi hv hf_27
        exact absurd hf_27 (Nat.not_lt_zero _)
      | succ fu_27 ih_27 =>
        intro i u w hi hv hf_27 ls hl
        refine lv_iload hx hb dX5_ask_27 (lv_at hl 5 rfl) ?_
        refine lv_aload_n hx hb dX5_ask_29 rfl (lv_at hl 0 rfl) ?_
        refine va_get (D := G.1) (ci := 5) (v := .int m.pl) (C := RX5) (T := TX5) (N := 21) hx hb hts i_X5_ask_X5 hown hK.1 hP 0 rfl rfl 2 (by decide) f13 (fun _ h9 => h9) rfl dX5_ask_30 ?_
        refine lv_icmp_ge (tgt := 147) hx hb dX5_ask_33 (by decide) (fun c_2 => ?_) (fun c_2 => ?_)
        · skip
          have c_2 := gl_le c_2
          have hx2 : N ≤ i := gl_ex hN (by omega) (by omega) c_2
          refine lv_iload_n hx hb dX5_ask_147 rfl (lv_at hl 3 rfl) ?_
          exact g_ri hx hb hr hlocks dX5_ask_148 (by rw [yAsR] <;> (first | done | rw [if_pos c_1] | rw [if_neg c_1] | rw [if_neg (by rw [c_1]; decide)] | skip) <;> (first | done | (rw [show i = N by omega] at hv; rw [hv])))
        · skip
          have c_2 := gl_nle c_2
          have hlt : i < N := gl_in hN (by omega) (by omega) c_2
          refine lv_iconst (v := 0) hx hb dX5_ask_36 (by decide) ?_
          refine lv_istore (lv' := [(6, .int 0), (0, .ref (a 0)), (1, .int nn), (2, .int (yGuR m k N 0)), (3, .int w), (4, .int u), (5, .int (nI i))]) hx hb dX5_ask_37 hl (by decide) rfl (fun ls hl => ?_)
          refine lv_iconst (v := 0) hx hb dX5_ask_39 (by decide) ?_
          refine lv_istore (lv' := [(7, .int 0), (6, .int 0), (0, .ref (a 0)), (1, .int nn), (2, .int (yGuR m k N 0)), (3, .int w), (4, .int u), (5, .int (nI i))]) hx hb dX5_ask_40 hl (by decide) rfl (fun ls hl => ?_)
          have lp_42 : ∀ (fu_42 : Nat) (y : Nat) (t : Nat), (y ≤ 12 * N) → (t = cntOf (fun g => dFit m k (nI g) && decide (dGa m (nI g) nn = nI i)) y) → 12 * N - y < fu_42 → ∀ ls : Array Slot, lv_has ls 8 [(0, .ref (a 0)), (1, .int nn), (2, .int (yGuR m k N 0)), (3, .int w), (4, .int u), (5, .int (nI i)), (6, .int (nI t)), (7, .int (nI y))] → W pz lz ez (gRm 5) sz mz ([.ref (a 0), .int nn] : List Value).toArray bz tz cz sz.heap [] 0 0 (MQ bz (vp_Si (fun xx_ => xx_ = yAsR m k N nn)) ([.ref (a 0), .int nn] : List Value).toArray sz 0 0 (fun _ => False)) (F0 mz 42 ls []) := by
            intro fu_42
            induction fu_42 with
            | zero =>
              intro y t hy hct hf_42
              exact absurd hf_42 (Nat.not_lt_zero _)
            | succ fu_42 ih_42 =>
              intro y t hy hct hf_42 ls hl
              refine lv_iload hx hb dX5_ask_42 (lv_at hl 7 rfl) ?_
              refine lv_bipush (v := 12) hx hb dX5_ask_44 (by decide) ?_
              refine lv_aload_n hx hb dX5_ask_46 rfl (lv_at hl 0 rfl) ?_
              refine va_get (D := G.1) (ci := 5) (v := .int m.pl) (C := RX5) (T := TX5) (N := 21) hx hb hts i_X5_ask_X5 hown hK.1 hP 0 rfl rfl 2 (by decide) f13 (fun _ h9 => h9) rfl dX5_ask_47 ?_
              refine lv_imul hx hb dX5_ask_50 ?_
              refine lv_icmp_ge (tgt := 91) hx hb dX5_ask_51 (by decide) (fun c_3 => ?_) (fun c_3 => ?_)
              · skip
                have c_3 := gl_le c_3
                have hyx : 12 * N ≤ y := gl_ex (by rw [hN]; exact pk_mul 12 N) (by omega) (by omega) c_3
                refine lv_iload hx hb dX5_ask_91 (lv_at hl 6 rfl) ?_
                refine lv_iload_n hx hb dX5_ask_93 rfl (lv_at hl 2 rfl) ?_
                refine lv_iload hx hb dX5_ask_94 (lv_at hl 6 rfl) ?_
                refine lv_isub hx hb dX5_ask_96 ?_
                refine lv_icmp_le (tgt := 105) hx hb dX5_ask_97 (by decide) (fun c_4 => ?_) (fun c_4 => ?_)
                · skip
                  have c_4 := gl_le c_4
                  refine lv_iload_n hx hb dX5_ask_105 rfl (lv_at hl 2 rfl) ?_
                  refine lv_iload hx hb dX5_ask_106 (lv_at hl 6 rfl) ?_
                  refine lv_isub hx hb dX5_ask_108 ?_
                  refine lv_istore (lv' := [(7, .int ((yGuR m k N 0) - (nI t))), (0, .ref (a 0)), (1, .int nn), (2, .int (yGuR m k N 0)), (3, .int w), (4, .int u), (5, .int (nI i)), (6, .int (nI t))]) hx hb dX5_ask_109 hl (by decide) rfl (fun ls hl => ?_)
                  refine lv_iload hx hb dX5_ask_111 (lv_at hl 0 rfl) ?_
                  refine lv_iload hx hb dX5_ask_113 (lv_at hl 5 rfl) ?_
                  refine lv_icmp_ge (tgt := 123) hx hb dX5_ask_115 (by decide) (fun c_5 => ?_) (fun c_5 => ?_)
                  · skip
                    have c_5 := gl_le c_5
                    refine lv_iload_n hx hb dX5_ask_123 rfl (lv_at hl 4 rfl) ?_
                    refine lv_istore_n (lv' := [(3, .int w), (7, .int ((yGuR m k N 0) - (nI t))), (0, .ref (a 0)), (1, .int nn), (2, .int (yGuR m k N 0)), (4, .int u), (5, .int (nI i)), (6, .int (nI t))]) hx hb dX5_ask_124 rfl hl (by decide) rfl (fun ls hl => ?_)
                    refine lv_iload hx hb dX5_ask_125 (lv_at hl 1 rfl) ?_
                    refine lv_iload hx hb dX5_ask_127 (lv_at hl 5 rfl) ?_
                    refine lv_icmp_ge (tgt := 137) hx hb dX5_ask_129 (by decide) (fun c_6 => ?_) (fun c_6 => absurd (gl_nle c_6) c_5)
                    have c_6 := gl_le c_6
                    refine lv_iload hx hb dX5_ask_137 (lv_at hl 5 rfl) ?_
                    refine lv_istore (lv' := [(4, .int u), (3, .int w), (7, .int ((yGuR m k N 0) - (nI t))), (0, .ref (a 0)), (1, .int nn), (2, .int (yGuR m k N 0)), (5, .int (nI i)), (6, .int (nI t))]) hx hb dX5_ask_139 hl (by decide) rfl (fun ls hl => ?_)
                    refine lv_iinc (v := nI (i + 1)) (lv' := [(5, .int (nI (i + 1))), (4, .int u), (3, .int w), (7, .int ((yGuR m k N 0) - (nI t))), (0, .ref (a 0)), (1, .int nn), (2, .int (yGuR m k N 0)), (6, .int (nI t))]) hx hb dX5_ask_141 hl (k := 6) rfl (nI_1 i) (by decide) rfl (fun ls hl => ?_)
                    refine lv_goto (tgt := 27) hx hb dX5_ask_144 (by decide) ?_
                    exact ih_27 (i + 1) u w hlt (by rw [amL, hv, ← show t = amT m k N nn i from by rw [hct, show y = 12 * N by omega]; rfl] <;> (first | done | rw [if_pos c_4] | rw [if_neg c_4] | rw [if_neg (by rw [c_4]; decide)] | skip) <;> (first | done | rw [if_pos c_5] | rw [if_neg c_5] | rw [if_neg (by rw [c_5]; decide)] | skip) <;> (first | done | rfl)) (by omega) ls (lv_sub hl [4, 5, 6, 2, 1, 0] rfl)
                  · skip
                    have c_5 := gl_nle c_5
                    refine lv_iload hx hb dX5_ask_118 (lv_at hl 6 rfl) ?_
                    refine lv_goto (tgt := 124) hx hb dX5_ask_120 (by decide) ?_
                    refine lv_istore_n (lv' := [(3, .int (nI i)), (7, .int ((yGuR m k N 0) - (nI t))), (0, .ref (a 0)), (1, .int nn), (2, .int (yGuR m k N 0)), (4, .int u), (5, .int (nI i)), (6, .int (nI t))]) hx hb dX5_ask_124 rfl hl (by decide) rfl (fun ls hl => ?_)
                    refine lv_iload hx hb dX5_ask_125 (lv_at hl 1 rfl) ?_
                    refine lv_iload hx hb dX5_ask_127 (lv_at hl 5 rfl) ?_
                    refine lv_icmp_ge (tgt := 137) hx hb dX5_ask_129 (by decide) (fun c_7 => absurd c_5 (gl_le c_7)) (fun c_7 => ?_)
                    have c_7 := gl_nle c_7
                    refine lv_iload hx hb dX5_ask_132 (lv_at hl 1 rfl) ?_
                    refine lv_goto (tgt := 139) hx hb dX5_ask_134 (by decide) ?_
                    refine lv_istore (lv' := [(4, .int ((yGuR m k N 0) - (nI t))), (3, .int (nI i)), (7, .int ((yGuR m k N 0) - (nI t))), (0, .ref (a 0)), (1, .int nn), (2, .int (yGuR m k N 0)), (5, .int (nI i)), (6, .int (nI t))]) hx hb dX5_ask_139 hl (by decide) rfl (fun ls hl => ?_)
                    refine lv_iinc (v := nI (i + 1)) (lv' := [(5, .int (nI (i + 1))), (4, .int ((yGuR m k N 0) - (nI t))), (3, .int (nI i)), (7, .int ((yGuR m k N 0) - (nI t))), (0, .ref (a 0)), (1, .int nn), (2, .int (yGuR m k N 0)), (6, .int (nI t))]) hx hb dX5_ask_141 hl (k := 6) rfl (nI_1 i) (by decide) rfl (fun ls hl => ?_)
                    refine lv_goto (tgt := 27) hx hb dX5_ask_144 (by decide) ?_
                    exact ih_27 (i + 1) ((yGuR m k N 0) - (nI t)) (nI i) hlt (by rw [amL, hv, ← show t = amT m k N nn i from by rw [hct, show y = 12 * N by omega]; rfl] <;> (first | done | rw [if_pos c_4] | rw [if_neg c_4] | rw [if_neg (by rw [c_4]; decide)] | skip) <;> (first | done | rw [if_pos c_5] | rw [if_neg c_5] | rw [if_neg (by rw [c_5]; decide)] | skip) <;> (first | done | rfl)) (by omega) ls (lv_sub hl [4, 5, 6, 2, 1, 0] rfl)
                · skip
                  have c_4 := gl_nle c_4
                  refine lv_iload hx hb dX5_ask_100 (lv_at hl 6 rfl) ?_
                  refine lv_goto (tgt := 109) hx hb dX5_ask_102 (by decide) ?_
                  refine lv_istore (lv' := [(7, .int (nI t)), (0, .ref (a 0)), (1, .int nn), (2, .int (yGuR m k N 0)), (3, .int w), (4, .int u), (5, .int (nI i)), (6, .int (nI t))]) hx hb dX5_ask_109 hl (by decide) rfl (fun ls hl => ?_)
                  refine lv_iload hx hb dX5_ask_111 (lv_at hl 0 rfl) ?_
                  refine lv_iload hx hb dX5_ask_113 (lv_at hl 5 rfl) ?_
                  refine lv_icmp_ge (tgt := 123) hx hb dX5_ask_115 (by decide) (fun c_8 => ?_) (fun c_8 => ?_)
                  · skip
                    have c_8 := gl_le c_8
                    refine lv_iload_n hx hb dX5_ask_123 rfl (lv_at hl 4 rfl) ?_
                    refine lv_istore_n (lv' := [(3, .int w), (7, .int (nI t)), (0, .ref (a 0)), (1, .int nn), (2, .int (yGuR m k N 0)), (4, .int u), (5, .int (nI i)), (6, .int (nI t))]) hx hb dX5_ask_124 rfl hl (by decide) rfl (fun ls hl => ?_)
                    refine lv_iload hx hb dX5_ask_125 (lv_at hl 1 rfl) ?_
                    refine lv_iload hx hb dX5_ask_127 (lv_at hl 5 rfl) ?_
                    refine lv_icmp_ge (tgt := 137) hx hb dX5_ask_129 (by decide) (fun c_9 => ?_) (fun c_9 => absurd (gl_nle c_9) c_8)
                    have c_9 := gl_le c_9
                    refine lv_iload hx hb dX5_ask_137 (lv_at hl 5 rfl) ?_
                    refine lv_istore (lv' := [(4, .int u), (3, .int w), (7, .int (nI t)), (0, .ref (a 0)), (1, .int nn), (2, .int (yGuR m k N 0)), (5, .int (nI i)), (6, .int (nI t))]) hx hb dX5_ask_139 hl (by decide) rfl (fun ls hl => ?_)
                    refine lv_iinc (v := nI (i + 1)) (lv' := [(5, .int (nI (i + 1))), (4, .int u), (3, .int w), (7, .int (nI t)), (0, .ref (a 0)), (1, .int nn), (2, .int (yGuR m k N 0)), (6, .int (nI t))]) hx hb dX5_ask_141 hl (k := 6) rfl (nI_1 i) (by decide) rfl (fun ls hl => ?_)
                    refine lv_goto (tgt := 27) hx hb dX5_ask_144 (by decide) ?_
                    exact ih_27 (i + 1) u w hlt (by rw [amL, hv, ← show t = amT m k N nn i from by rw [hct, show y = 12 * N by omega]; rfl] <;> (first | done | rw [if_pos c_4] | rw [if_neg c_4] | rw [if_neg (by rw [c_4]; decide)] | skip) <;> (first | done | rw [if_pos c_8] | rw [if_neg c_8] | rw [if_neg (by rw [c_8]; decide)] | skip) <;> (first | done | rfl)) (by omega) ls (lv_sub hl [4, 5, 6, 2, 1, 0] rfl)
                  · skip
                    have c_8 := gl_nle c_8
                    refine lv_iload hx hb dX5_ask_118 (lv_at hl 6 rfl) ?_
                    refine lv_goto (tgt := 124) hx hb dX5_ask_120 (by decide) ?_
                    refine lv_istore_n (lv' := [(3, .int (nI i)), (7, .int (nI t)), (0, .ref (a 0)), (1, .int nn), (2, .int (yGuR m k N 0)), (4, .int u), (5, .int (nI i)), (6, .int (nI t))]) hx hb dX5_ask_124 rfl hl (by decide) rfl (fun ls hl => ?_)
                    refine lv_iload hx hb dX5_ask_125 (lv_at hl 1 rfl) ?_
                    refine lv_iload hx hb dX5_ask_127 (lv_at hl 5 rfl) ?_
                    refine lv_icmp_ge (tgt := 137) hx hb dX5_ask_129 (by decide) (fun c_10 => absurd c_8 (gl_le c_10)) (fun c_10 => ?_)
                    have c_10 := gl_nle c_10
                    refine lv_iload hx hb dX5_ask_132 (lv_at hl 1 rfl) ?_
                    refine lv_goto (tgt := 139) hx hb dX5_ask_134 (by decide) ?_
                    refine lv_istore (lv' := [(4, .int (nI t)), (3, .int (nI i)), (7, .int (nI t)), (0, .ref (a 0)), (1, .int nn), (2, .int (yGuR m k N 0)), (5, .int (nI i)), (6, .int (nI t))]) hx hb dX5_ask_139 hl (by decide) rfl (fun ls hl => ?_)
                    refine lv_iinc (v := nI (i + 1)) (lv' := [(5, .int (nI (i + 1))), (4, .int (nI t)), (3, .int (nI i)), (7, .int (nI t)), (0, .ref (a 0)), (1, .int nn), (2, .int (yGuR m k N 0)), (6, .int (nI t))]) hx hb dX5_ask_141 hl (k := 6) rfl (nI_1 i) (by decide) rfl (fun ls hl => ?_)
                    refine lv_goto (tgt := 27) hx hb dX5_ask_144 (by decide) ?_
                    exact ih_27 (i + 1) (nI t) (nI i) hlt (by rw [amL, hv, ← show t = amT m k N nn i from by rw [hct, show y = 12 * N by omega]; rfl] <;> (first | done | rw [if_pos c_4] | rw [if_neg c_4] | rw [if_neg (by rw [c_4]; decide)] | skip) <;> (first | done | rw [if_pos c_8] | rw [if_neg c_8] | rw [if_neg (by rw [c_8]; decide)] | skip) <;> (first | done | rfl)) (by omega) ls (lv_sub hl [4, 5, 6, 2, 1, 0] rfl)
              · skip
                have c_3 := gl_nle c_3
                have hyl : y < 12 * N := gl_in (by rw [hN]; exact pk_mul 12 N) (by omega) (by omega) c_3
                refine lv_iload hx hb dX5_ask_54 (lv_at hl 6 rfl) ?_
                refine lv_aload_n hx hb dX5_ask_56 rfl (lv_at hl 0 rfl) ?_
                refine lv_iload hx hb dX5_ask_57 (lv_at hl 7 rfl) ?_
                refine g_rdV (As := [.int (nI y)]) (rest := [.int (nI t)]) (nL := 8) hx hb hml hown hts (c_X5_fits lz G a m k (nI y) hk hk6 hpl) gX5_ask_X5_fits rfl h_X5_fits ⟨Nat.le_of_ble_eq_true rfl, Nat.le_of_ble_eq_true rfl⟩ hK hP (ci := 5) rfl rfl rfl rfl hl.1 rfl (Nat.le_of_ble_eq_true rfl) ⟨Nat.le_refl _, Nat.le_refl _⟩ dX5_ask_59 ?_
                refine lv_if_eq (tgt := 81) hx hb dX5_ask_62 (by decide) (fun c_11 => ?_) (fun c_11 => ?_)
                · skip
                  have c_11 := bI_0 c_11
                  refine lv_iconst (v := 0) hx hb dX5_ask_81 (by decide) ?_
                  refine lv_iadd hx hb dX5_ask_82 ?_
                  refine g_top (y := nI (t + 0)) (nI_add t 0) ?_
                  refine lv_istore (lv' := [(6, .int (nI (t + 0))), (0, .ref (a 0)), (1, .int nn), (2, .int (yGuR m k N 0)), (3, .int w), (4, .int u), (5, .int (nI i)), (7, .int (nI y))]) hx hb dX5_ask_83 hl (by decide) rfl (fun ls hl => ?_)
                  refine lv_iinc (v := nI (y + 1)) (lv' := [(7, .int (nI (y + 1))), (6, .int (nI (t + 0))), (0, .ref (a 0)), (1, .int nn), (2, .int (yGuR m k N 0)), (3, .int w), (4, .int u), (5, .int (nI i))]) hx hb dX5_ask_85 hl (k := 7) rfl (nI_1 y) (by decide) rfl (fun ls hl => ?_)
                  refine lv_goto (tgt := 42) hx hb dX5_ask_88 (by decide) ?_
                  exact ih_42 (y + 1) (t + 0) hyl (cO_n hct (by simp [c_11])) (by omega) ls (lv_sub hl [2, 3, 4, 5, 6, 7, 1, 0] rfl)
                · skip
                  have c_11 := bI_1 c_11
                  refine lv_aload_n hx hb dX5_ask_65 rfl (lv_at hl 0 rfl) ?_
                  refine lv_iload hx hb dX5_ask_66 (lv_at hl 7 rfl) ?_
                  refine lv_iload_n hx hb dX5_ask_68 rfl (lv_at hl 1 rfl) ?_
                  refine g_rdV (As := [.int (nI y), .int nn]) (rest := [.int (nI t)]) (nL := 8) hx hb hml hown hts (c_X5_guessAt lz G a m (nI y) nn hpl) gX5_ask_X5_guessAt rfl h_X5_guessAt ⟨Nat.le_of_ble_eq_true rfl, Nat.le_of_ble_eq_true rfl⟩ hK hP (ci := 5) rfl rfl rfl rfl hl.1 rfl (Nat.le_of_ble_eq_true rfl) ⟨Nat.le_refl _, Nat.le_refl _⟩ dX5_ask_69 ?_
                  refine lv_iload hx hb dX5_ask_72 (lv_at hl 5 rfl) ?_
                  refine lv_icmp_ne (tgt := 81) hx hb dX5_ask_74 (by decide) (fun c_12 => ?_) (fun c_12 => ?_)
                  · skip
                    refine lv_iconst (v := 0) hx hb dX5_ask_81 (by decide) ?_
                    refine lv_iadd hx hb dX5_ask_82 ?_
                    refine g_top (y := nI (t + 0)) (nI_add t 0) ?_
                    refine lv_istore (lv' := [(6, .int (nI (t + 0))), (0, .ref (a 0)), (1, .int nn), (2, .int (yGuR m k N 0)), (3, .int w), (4, .int u), (5, .int (nI i)), (7, .int (nI y))]) hx hb dX5_ask_83 hl (by decide) rfl (fun ls hl => ?_)
                    refine lv_iinc (v := nI (y + 1)) (lv' := [(7, .int (nI (y + 1))), (6, .int (nI (t + 0))), (0, .ref (a 0)), (1, .int nn), (2, .int (yGuR m k N 0)), (3, .int w), (4, .int u), (5, .int (nI i))]) hx hb dX5_ask_85 hl (k := 7) rfl (nI_1 y) (by decide) rfl (fun ls hl => ?_)
                    refine lv_goto (tgt := 42) hx hb dX5_ask_88 (by decide) ?_
                    exact ih_42 (y + 1) (t + 0) hyl (cO_n hct (by simp [c_11, c_12])) (by omega) ls (lv_sub hl [2, 3, 4, 5, 6, 7, 1, 0] rfl)
                  · skip
                    refine lv_iconst (v := 1) hx hb dX5_ask_77 (by decide) ?_
                    refine lv_goto (tgt := 82) hx hb dX5_ask_78 (by decide) ?_
                    refine lv_iadd hx hb dX5_ask_82 ?_
                    refine g_top (y := nI (t + 1)) (nI_add t 1) ?_
                    refine lv_istore (lv' := [(6, .int (nI (t + 1))), (0, .ref (a 0)), (1, .int nn), (2, .int (yGuR m k N 0)), (3, .int w), (4, .int u), (5, .int (nI i)), (7, .int (nI y))]) hx hb dX5_ask_83 hl (by decide) rfl (fun ls hl => ?_)
                    refine lv_iinc (v := nI (y + 1)) (lv' := [(7, .int (nI (y + 1))), (6, .int (nI (t + 1))), (0, .ref (a 0)), (1, .int nn), (2, .int (yGuR m k N 0)), (3, .int w), (4, .int u), (5, .int (nI i))]) hx hb dX5_ask_85 hl (k := 7) rfl (nI_1 y) (by decide) rfl (fun ls hl => ?_)
                    refine lv_goto (tgt := 42) hx hb dX5_ask_88 (by decide) ?_
                    exact ih_42 (y + 1) (t + 1) hyl (cO_y hct (by simp [c_11, c_12])) (by omega) ls (lv_sub hl [2, 3, 4, 5, 6, 7, 1, 0] rfl)
          exact lp_42 ((12 * N - 0) + 1) 0 0 (Nat.zero_le _) rfl (Nat.lt_succ_self _) ls (lv_sub hl [2, 3, 4, 5, 6, 7, 1, 0] rfl)
    exact lp_27 ((N - 0) + 1) 0 (yGuR m k N 0) (-9) (Nat.zero_le _) rfl (Nat.lt_succ_self _) ls (lv_sub hl [4, 5, 3, 2, 1, 0] rfl)
  · skip
    have c_1 := bI_0 c_1
    refine lv_iconst (v := (-1)) hx hb dX5_ask_10 (by decide) ?_
    exact g_ri hx hb hr hlocks dX5_ask_11 (by rw [yAsR] <;> (first | done | rw [if_pos c_1] | rw [if_neg c_1] | rw [if_neg (by rw [c_1]; decide)] | skip) <;> (first | done | rfl | (simp only [c_1]; rfl) | (simp [c_1, bI]; done)))

theorem i_X5_mark_X5 : ∀ w ∈ wsX50, w ∈ wsX5_mark := by decide +kernel
theorem h_X5_mark : yX5_mark.cls = RX5 ∧ yX5_mark.cls ≠ "java/lang/invoke/MethodHandle" ∧ yX5_mark.cls ≠ "java/lang/invoke/VarHandle" ∧ (parseMethodDescriptor yX5_mark.desc).map (fun d => d.parameters.length) = some 2 := by decide +kernel
set_option maxHeartbeats 4000000 in
set_option maxRecDepth 100000 in
theorem c_X5_mark (lz : Launch) (G : gG) (a : Nat → Nat) (m : MdS) (n : Nat) (kd s : Int32) (hn : m.st 1 = nI n) (hn8 : n ≤ 8) (hpl : ¬ m.pl = 0) : gWr lz yX5_mark wsX5_mark 3 G [.ref (a 0), .int kd, .int s] (wMd a G.2.1 G.2.2.1 m) (wMd a G.2.1 G.2.2.1 (m.text, m.len, m.pl, m.loss, m.nich, m.st, m.book, m.undos, m.imgs, m.kept, m.heard, m.hm, yMaT m kd s, m.pos, m.wrong, m.items, m.rp, m.rl, m.sl, m.rn, m.read)) (some (.int (yMaR m kd s))) := by
  refine g_wr (by decide) rfl (Nat.le_of_ble_eq_true rfl) ?_
  intro pz ez sz mz bz tz cz hx hb hr hml hown hts hlocks hK A hAe hP hD hS ls hl
  have hl : lv_has ls 4 [(0, .ref (a 0)), (1, .int kd), (2, .int s)] := hl
  have f173 := hts (.fieldLink RX5 173 "WhisperRingModel" "trail" "J") (by decide +kernel)
  have f20 := hts (.fieldLink RX5 20 "WhisperRingModel" "st" "[I") (by decide +kernel)
  have fk172 := hts (.constant RX5 172 (-1000000)) (by decide +kernel)
  have fk177 := hts (.constantLong RX5 177 10) (by decide +kernel)
  have fk179 := hts (.constantLong RX5 179 100) (by decide +kernel)
  have fk181 := hts (.constantLong RX5 181 1010) (by decide +kernel)
  have fk183 := hts (.constantLong RX5 183 10100) (by decide +kernel)
  have fk185 := hts (.constantLong RX5 185 100000) (by decide +kernel)
  refine lv_iload_n hx hb dX5_mark_0 rfl (lv_at hl 1 rfl) ?_
  refine lv_iconst (v := 0) hx hb dX5_mark_1 (by decide) ?_
  refine lv_iconst (v := 5) hx hb dX5_mark_2 (by decide) ?_
  refine g_rdS (As := [.int kd, .int 0, .int 5]) (rest := []) (nL := 4) hx hb hml hown hts (c_X5_in lz G kd 0 5) gX5_mark_X5_in rfl h_X5_in ⟨Nat.le_of_ble_eq_true rfl, Nat.le_of_ble_eq_true rfl⟩ hK gP_nil rfl hl.1 rfl (Nat.le_of_ble_eq_true rfl) ⟨Nat.le_refl _, Nat.le_refl _⟩ dX5_mark_3 ?_
  refine lv_if_eq (tgt := 17) hx hb dX5_mark_6 (by decide) (fun c_1 => ?_) (fun c_1 => ?_)
  · skip
    have c_1 := bI_0 c_1
    refine lv_ldc (v := (-1000000)) hx hb hown fk172 dX5_mark_17 ?_
    have hP : va_P G.1 vwCl (wMd a G.2.1 G.2.2.1 (m.text, m.len, m.pl, m.loss, m.nich, m.st, m.book, m.undos, m.imgs, m.kept, m.heard, m.hm, yMaT m kd s, m.pos, m.wrong, m.items, m.rp, m.rl, m.sl, m.rn, m.read)) sz.heap := by
      rw [yMaT] <;> (first | rw [if_pos c_1] | rw [if_neg c_1] | rw [if_neg (by rw [c_1]; decide)] | skip)
      exact hP
    exact g_wi hx hb hr hlocks hAe hP hS dX5_mark_19 (by rw [yMaR] <;> (first | done | rw [if_pos c_1] | rw [if_neg c_1] | rw [if_neg (by rw [c_1]; decide)] | skip) <;> (first | done | rfl | (simp only [c_1]; rfl) | (simp [c_1, bI]; done)))
  · skip
    have c_1 := bI_1 c_1
    refine lv_aload_n hx hb dX5_mark_9 rfl (lv_at hl 0 rfl) ?_
    refine lv_iload_n hx hb dX5_mark_10 rfl (lv_at hl 2 rfl) ?_
    refine g_rdV (As := [.int s]) (rest := []) (nL := 4) hx hb hml hown hts (c_X5_isSaying lz G a m s) gX5_mark_X5_isSaying rfl h_X5_isSaying ⟨Nat.le_of_ble_eq_true rfl, Nat.le_of_ble_eq_true rfl⟩ hK hP (ci := 5) rfl rfl rfl rfl hl.1 rfl (Nat.le_of_ble_eq_true rfl) ⟨Nat.le_refl _, Nat.le_refl _⟩ dX5_mark_11 ?_
    refine lv_if_ne (tgt := 20) hx hb dX5_mark_14 (by decide) (fun c_2 => ?_) (fun c_2 => ?_)
    · skip
      have c_2 := bI_1 c_2
      obtain ⟨hj, hsj⟩ := wIn_nat hn hn8 c_2
      refine lv_aload_n hx hb dX5_mark_20 rfl (lv_at hl 0 rfl) ?_
      refine va_get (D := G.1) (ci := 5) (v := .ref (a 2)) (C := RX5) (T := TX5) (N := 21) hx hb hts i_X5_mark_X5 hown hK.1 hP 0 rfl rfl 5 (by decide) f20 (fun _ h9 => h9) rfl dX5_mark_21 ?_
      refine lv_bipush (v := 26) hx hb dX5_mark_24 (by decide) ?_
      refine lv_iload_n hx hb dX5_mark_26 rfl (lv_at hl 2 rfl) ?_
      refine g_top (y := nI s.toNatClampNeg) (hsj) ?_
      refine lv_iadd hx hb dX5_mark_27 ?_
      refine g_top (y := nI (26 + s.toNatClampNeg)) (nI_add 26 s.toNatClampNeg) ?_
      refine g_iald hx hb hK.1 hP 2 0 rfl rfl (i := (26 + s.toNatClampNeg)) (by omega) (by decide) dX5_mark_28 ?_
      refine lv_istore_n (lv' := [(3, .int (m.st (26 + s.toNatClampNeg))), (0, .ref (a 0)), (1, .int kd), (2, .int s)]) hx hb dX5_mark_29 rfl hl (by decide) rfl (fun ls hl => ?_)
      refine lv_aload_n hx hb dX5_mark_30 rfl (lv_at hl 1 rfl) ?_
      refine lv_dup hx hb dX5_mark_31 rfl ?_
      refine va_get (D := G.1) (ci := 5) (v := .long m.trail) (C := RX5) (T := TX5) (N := 21) hx hb hts i_X5_mark_X5 hown hK.1 hP 0 rfl rfl 12 (by decide) f173 (fun _ h9 => h9) rfl dX5_mark_32 ?_
      refine lv_lconst (v := 1) hx hb dX5_mark_35 (by decide) ?_
      refine lv_ladd hx hb dX5_mark_36 ?_
      refine va_put (D := G.1) (ci := 5) (v := .long (m.trail + 1)) (ty := .long) (C := RX5) (T := TX5) (N := 21) hx hb hts i_X5_mark_X5 tyX5 tyX5_ok nmX5 hown hK.1 hP hD hS 0 rfl rfl 12 (by decide) f173 (fun _ h9 => h9) rfl (by decide +kernel) rfl rfl (Nat.le_of_ble_eq_true rfl) dX5_mark_37 (fun H locs hP hD hS => ?_)
      have hP : va_P G.1 vwCl (wMd a G.2.1 G.2.2.1 (m.text, m.len, m.pl, m.loss, m.nich, m.st, m.book, m.undos, m.imgs, m.kept, m.heard, m.hm, m.trail + 1, m.pos, m.wrong, m.items, m.rp, m.rl, m.sl, m.rn, m.read)) H := hP
      have hD : va_D A (wMd a G.2.1 G.2.2.1 (m.text, m.len, m.pl, m.loss, m.nich, m.st, m.book, m.undos, m.imgs, m.kept, m.heard, m.hm, m.trail + 1, m.pos, m.wrong, m.items, m.rp, m.rl, m.sl, m.rn, m.read)) := hD
      refine lv_iload_n hx hb dX5_mark_40 rfl (lv_at hl 2 rfl) ?_
      by_cases k_3 : kd = 1
      · refine lv_tableIn (tgt := 76) hx hb dX5_mark_41 (by rw [k_3]; decide) (by rw [k_3]; decide) (by rw [k_3]; rfl) (by decide) ?_
        refine lv_aload_n hx hb dX5_mark_76 rfl (lv_at hl 1 rfl) ?_
        refine lv_dup hx hb dX5_mark_77 rfl ?_
        refine va_get (D := G.1) (ci := 5) (v := .long (m.trail + 1)) (C := RX5) (T := TX5) (N := 21) hx hb hts i_X5_mark_X5 hown hK.1 hP 0 rfl rfl 12 (by decide) f173 (fun _ h9 => h9) rfl dX5_mark_78 ?_
        refine lv_ldc2 (v := 10) hx hb hown fk177 dX5_mark_81 ?_
        refine lv_ladd hx hb dX5_mark_84 ?_
        refine va_put (D := G.1) (ci := 5) (v := .long ((m.trail + 1) + 10)) (ty := .long) (C := RX5) (T := TX5) (N := 21) hx hb hts i_X5_mark_X5 tyX5 tyX5_ok nmX5 hown hK.1 hP hD hS 0 rfl rfl 12 (by decide) f173 (fun _ h9 => h9) rfl (by decide +kernel) rfl rfl (Nat.le_of_ble_eq_true rfl) dX5_mark_85 (fun H locs hP hD hS => ?_)
        have hP : va_P G.1 vwCl (wMd a G.2.1 G.2.2.1 (m.text, m.len, m.pl, m.loss, m.nich, m.st, m.book, m.undos, m.imgs, m.kept, m.heard, m.hm, (m.trail + 1) + 10, m.pos, m.wrong, m.items, m.rp, m.rl, m.sl, m.rn, m.read)) H := hP
        have hD : va_D A (wMd a G.2.1 G.2.2.1 (m.text, m.len, m.pl, m.loss, m.nich, m.st, m.book, m.undos, m.imgs, m.kept, m.heard, m.hm, (m.trail + 1) + 10, m.pos, m.wrong, m.items, m.rp, m.rl, m.sl, m.rn, m.read)) := hD
        refine lv_iload_n hx hb dX5_mark_88 rfl (lv_at hl 0 rfl) ?_
        refine lv_aload_n hx hb dX5_mark_89 rfl (lv_at hl 1 rfl) ?_
        refine lv_iload_n hx hb dX5_mark_90 rfl (lv_at hl 3 rfl) ?_
        refine g_top (y := nI s.toNatClampNeg) (hsj) ?_
        refine lv_iconst (v := 0) hx hb dX5_mark_91 (by decide) ?_
        refine g_rdV (As := [.int (nI s.toNatClampNeg), .int 0]) (rest := [.int (m.st (26 + s.toNatClampNeg))]) (nL := 4) hx hb hml hown hts (c_X5_strengthOf lz G a (m.text, m.len, m.pl, m.loss, m.nich, m.st, m.book, m.undos, m.imgs, m.kept, m.heard, m.hm, (m.trail + 1) + 10, m.pos, m.wrong, m.items, m.rp, m.rl, m.sl, m.rn, m.read) s.toNatClampNeg 0 (by omega) hpl) gX5_mark_X5_strengthOf rfl h_X5_strengthOf ⟨Nat.le_of_ble_eq_true rfl, Nat.le_of_ble_eq_true rfl⟩ hK hP (ci := 5) rfl rfl rfl rfl hl.1 rfl (Nat.le_of_ble_eq_true rfl) ⟨Nat.le_refl _, Nat.le_refl _⟩ dX5_mark_92 ?_
        refine lv_iadd hx hb dX5_mark_95 ?_
        have hP : va_P G.1 vwCl (wMd a G.2.1 G.2.2.1 (m.text, m.len, m.pl, m.loss, m.nich, m.st, m.book, m.undos, m.imgs, m.kept, m.heard, m.hm, yMaT m kd s, m.pos, m.wrong, m.items, m.rp, m.rl, m.sl, m.rn, m.read)) H := by
          rw [yMaT] <;> (first | rw [if_pos c_1] | rw [if_neg c_1] | rw [if_neg (by rw [c_1]; decide)] | skip) <;> (first | rw [if_pos c_2] | rw [if_neg c_2] | rw [if_neg (by rw [c_2]; decide)] | skip) <;> (first | rw [if_pos k_3] | rw [if_neg k_3] | rw [if_neg (by rw [k_3]; decide)] | skip)
          exact hP
        exact g_wi hx hb hr hlocks hAe hP hS dX5_mark_96 (by rw [yMaR] <;> (first | done | rw [if_pos c_1] | rw [if_neg c_1] | rw [if_neg (by rw [c_1]; decide)] | skip) <;> (first | done | rw [if_pos c_2] | rw [if_neg c_2] | rw [if_neg (by rw [c_2]; decide)] | skip) <;> (first | done | rw [if_pos k_3] | rw [if_neg k_3] | rw [if_neg (by rw [k_3]; decide)] | skip) <;> (first | done | rfl | (simp only [c_1, c_2, k_3]; rfl) | (simp [c_1, c_2, k_3, bI]; done)))
      · skip
        by_cases k_4 : kd = 2
        · refine lv_tableIn (tgt := 97) hx hb dX5_mark_41 (by rw [k_4]; decide) (by rw [k_4]; decide) (by rw [k_4]; rfl) (by decide) ?_
          refine lv_aload_n hx hb dX5_mark_97 rfl (lv_at hl 1 rfl) ?_
          refine lv_dup hx hb dX5_mark_98 rfl ?_
          refine va_get (D := G.1) (ci := 5) (v := .long (m.trail + 1)) (C := RX5) (T := TX5) (N := 21) hx hb hts i_X5_mark_X5 hown hK.1 hP 0 rfl rfl 12 (by decide) f173 (fun _ h9 => h9) rfl dX5_mark_99 ?_
          refine lv_ldc2 (v := 100) hx hb hown fk179 dX5_mark_102 ?_
          refine lv_ladd hx hb dX5_mark_105 ?_
          refine va_put (D := G.1) (ci := 5) (v := .long ((m.trail + 1) + 100)) (ty := .long) (C := RX5) (T := TX5) (N := 21) hx hb hts i_X5_mark_X5 tyX5 tyX5_ok nmX5 hown hK.1 hP hD hS 0 rfl rfl 12 (by decide) f173 (fun _ h9 => h9) rfl (by decide +kernel) rfl rfl (Nat.le_of_ble_eq_true rfl) dX5_mark_106 (fun H locs hP hD hS => ?_)
          have hP : va_P G.1 vwCl (wMd a G.2.1 G.2.2.1 (m.text, m.len, m.pl, m.loss, m.nich, m.st, m.book, m.undos, m.imgs, m.kept, m.heard, m.hm, (m.trail + 1) + 100, m.pos, m.wrong, m.items, m.rp, m.rl, m.sl, m.rn, m.read)) H := hP
          have hD : va_D A (wMd a G.2.1 G.2.2.1 (m.text, m.len, m.pl, m.loss, m.nich, m.st, m.book, m.undos, m.imgs, m.kept, m.heard, m.hm, (m.trail + 1) + 100, m.pos, m.wrong, m.items, m.rp, m.rl, m.sl, m.rn, m.read)) := hD
          refine lv_iload_n hx hb dX5_mark_109 rfl (lv_at hl 0 rfl) ?_
          refine lv_aload_n hx hb dX5_mark_110 rfl (lv_at hl 1 rfl) ?_
          refine va_get (D := G.1) (ci := 5) (v := .ref (a 2)) (C := RX5) (T := TX5) (N := 21) hx hb hts i_X5_mark_X5 hown hK.1 hP 0 rfl rfl 5 (by decide) f20 (fun _ h9 => h9) rfl dX5_mark_111 ?_
          refine lv_bipush (v := 10) hx hb dX5_mark_114 (by decide) ?_
          refine lv_iload_n hx hb dX5_mark_116 rfl (lv_at hl 3 rfl) ?_
          refine g_top (y := nI s.toNatClampNeg) (hsj) ?_
          refine lv_iadd hx hb dX5_mark_117 ?_
          refine g_top (y := nI (10 + s.toNatClampNeg)) (nI_add 10 s.toNatClampNeg) ?_
          refine g_iald hx hb hK.1 hP 2 0 rfl rfl (i := (10 + s.toNatClampNeg)) (by omega) (by decide) dX5_mark_118 ?_
          refine lv_isub hx hb dX5_mark_119 ?_
          have hP : va_P G.1 vwCl (wMd a G.2.1 G.2.2.1 (m.text, m.len, m.pl, m.loss, m.nich, m.st, m.book, m.undos, m.imgs, m.kept, m.heard, m.hm, yMaT m kd s, m.pos, m.wrong, m.items, m.rp, m.rl, m.sl, m.rn, m.read)) H := by
            rw [yMaT] <;> (first | rw [if_pos c_1] | rw [if_neg c_1] | rw [if_neg (by rw [c_1]; decide)] | skip) <;> (first | rw [if_pos c_2] | rw [if_neg c_2] | rw [if_neg (by rw [c_2]; decide)] | skip) <;> (first | rw [if_pos k_3] | rw [if_neg k_3] | rw [if_neg (by rw [k_3]; decide)] | skip) <;> (first | rw [if_pos k_4] | rw [if_neg k_4] | rw [if_neg (by rw [k_4]; decide)] | skip)
            exact hP
          exact g_wi hx hb hr hlocks hAe hP hS dX5_mark_120 (by rw [yMaR] <;> (first | done | rw [if_pos c_1] | rw [if_neg c_1] | rw [if_neg (by rw [c_1]; decide)] | skip) <;> (first | done | rw [if_pos c_2] | rw [if_neg c_2] | rw [if_neg (by rw [c_2]; decide)] | skip) <;> (first | done | rw [if_pos k_3] | rw [if_neg k_3] | rw [if_neg (by rw [k_3]; decide)] | skip) <;> (first | done | rw [if_pos k_4] | rw [if_neg k_4] | rw [if_neg (by rw [k_4]; decide)] | skip) <;> (first | done | rfl | (simp only [c_1, c_2, k_3, k_4]; rfl) | (simp [c_1, c_2, k_3, k_4, bI]; done)))
        · skip
          by_cases k_5 : kd = 3
          · refine lv_tableIn (tgt := 121) hx hb dX5_mark_41 (by rw [k_5]; decide) (by rw [k_5]; decide) (by rw [k_5]; rfl) (by decide) ?_
            refine lv_aload_n hx hb dX5_mark_121 rfl (lv_at hl 1 rfl) ?_
            refine lv_dup hx hb dX5_mark_122 rfl ?_
            refine va_get (D := G.1) (ci := 5) (v := .long (m.trail + 1)) (C := RX5) (T := TX5) (N := 21) hx hb hts i_X5_mark_X5 hown hK.1 hP 0 rfl rfl 12 (by decide) f173 (fun _ h9 => h9) rfl dX5_mark_123 ?_
            refine lv_ldc2 (v := 1010) hx hb hown fk181 dX5_mark_126 ?_
            refine lv_ladd hx hb dX5_mark_129 ?_
            refine va_put (D := G.1) (ci := 5) (v := .long ((m.trail + 1) + 1010)) (ty := .long) (C := RX5) (T := TX5) (N := 21) hx hb hts i_X5_mark_X5 tyX5 tyX5_ok nmX5 hown hK.1 hP hD hS 0 rfl rfl 12 (by decide) f173 (fun _ h9 => h9) rfl (by decide +kernel) rfl rfl (Nat.le_of_ble_eq_true rfl) dX5_mark_130 (fun H locs hP hD hS => ?_)
            have hP : va_P G.1 vwCl (wMd a G.2.1 G.2.2.1 (m.text, m.len, m.pl, m.loss, m.nich, m.st, m.book, m.undos, m.imgs, m.kept, m.heard, m.hm, (m.trail + 1) + 1010, m.pos, m.wrong, m.items, m.rp, m.rl, m.sl, m.rn, m.read)) H := hP
            have hD : va_D A (wMd a G.2.1 G.2.2.1 (m.text, m.len, m.pl, m.loss, m.nich, m.st, m.book, m.undos, m.imgs, m.kept, m.heard, m.hm, (m.trail + 1) + 1010, m.pos, m.wrong, m.items, m.rp, m.rl, m.sl, m.rn, m.read)) := hD
            refine lv_iconst (v := 2) hx hb dX5_mark_133 (by decide) ?_
            refine lv_iload_n hx hb dX5_mark_134 rfl (lv_at hl 0 rfl) ?_
            refine lv_aload_n hx hb dX5_mark_135 rfl (lv_at hl 1 rfl) ?_
            refine lv_iload_n hx hb dX5_mark_136 rfl (lv_at hl 3 rfl) ?_
            refine g_top (y := nI s.toNatClampNeg) (hsj) ?_
            refine lv_iconst (v := 0) hx hb dX5_mark_137 (by decide) ?_
            refine g_rdV (As := [.int (nI s.toNatClampNeg), .int 0]) (rest := [.int (m.st (26 + s.toNatClampNeg)), .int 2]) (nL := 4) hx hb hml hown hts (c_X5_strengthOf lz G a (m.text, m.len, m.pl, m.loss, m.nich, m.st, m.book, m.undos, m.imgs, m.kept, m.heard, m.hm, (m.trail + 1) + 1010, m.pos, m.wrong, m.items, m.rp, m.rl, m.sl, m.rn, m.read) s.toNatClampNeg 0 (by omega) hpl) gX5_mark_X5_strengthOf rfl h_X5_strengthOf ⟨Nat.le_of_ble_eq_true rfl, Nat.le_of_ble_eq_true rfl⟩ hK hP (ci := 5) rfl rfl rfl rfl hl.1 rfl (Nat.le_of_ble_eq_true rfl) ⟨Nat.le_refl _, Nat.le_refl _⟩ dX5_mark_138 ?_
            refine lv_iadd hx hb dX5_mark_141 ?_
            refine lv_imul hx hb dX5_mark_142 ?_
            have hP : va_P G.1 vwCl (wMd a G.2.1 G.2.2.1 (m.text, m.len, m.pl, m.loss, m.nich, m.st, m.book, m.undos, m.imgs, m.kept, m.heard, m.hm, yMaT m kd s, m.pos, m.wrong, m.items, m.rp, m.rl, m.sl, m.rn, m.read)) H := by
              rw [yMaT] <;> (first | rw [if_pos c_1] | rw [if_neg c_1] | rw [if_neg (by rw [c_1]; decide)] | skip) <;> (first | rw [if_pos c_2] | rw [if_neg c_2] | rw [if_neg (by rw [c_2]; decide)] | skip) <;> (first | rw [if_pos k_3] | rw [if_neg k_3] | rw [if_neg (by rw [k_3]; decide)] | skip) <;> (first | rw [if_pos k_4] | rw [if_neg k_4] | rw [if_neg (by rw [k_4]; decide)] | skip) <;> (first | rw [if_pos k_5] | rw [if_neg k_5] | rw [if_neg (by rw [k_5]; decide)] | skip)
              exact hP
            exact g_wi hx hb hr hlocks hAe hP hS dX5_mark_143 (by rw [yMaR] <;> (first | done | rw [if_pos c_1] | rw [if_neg c_1] | rw [if_neg (by rw [c_1]; decide)] | skip) <;> (first | done | rw [if_pos c_2] | rw [if_neg c_2] | rw [if_neg (by rw [c_2]; decide)] | skip) <;> (first | done | rw [if_pos k_3] | rw [if_neg k_3] | rw [if_neg (by rw [k_3]; decide)] | skip) <;> (first | done | rw [if_pos k_4] | rw [if_neg k_4] | rw [if_neg (by rw [k_4]; decide)] | skip) <;> (first | done | rw [if_pos k_5] | rw [if_neg k_5] | rw [if_neg (by rw [k_5]; decide)] | skip) <;> (first | done | rfl | (simp only [c_1, c_2, k_3, k_4, k_5]; rfl) | (simp [c_1, c_2, k_3, k_4, k_5, bI]; done)))
          · skip
            by_cases k_6 : kd = 4
            · refine lv_tableIn (tgt := 144) hx hb dX5_mark_41 (by rw [k_6]; decide) (by rw [k_6]; decide) (by rw [k_6]; rfl) (by decide) ?_
              refine lv_aload_n hx hb dX5_mark_144 rfl (lv_at hl 1 rfl) ?_
              refine lv_dup hx hb dX5_mark_145 rfl ?_
              refine va_get (D := G.1) (ci := 5) (v := .long (m.trail + 1)) (C := RX5) (T := TX5) (N := 21) hx hb hts i_X5_mark_X5 hown hK.1 hP 0 rfl rfl 12 (by decide) f173 (fun _ h9 => h9) rfl dX5_mark_146 ?_
              refine lv_ldc2 (v := 10100) hx hb hown fk183 dX5_mark_149 ?_
              refine lv_ladd hx hb dX5_mark_152 ?_
              refine va_put (D := G.1) (ci := 5) (v := .long ((m.trail + 1) + 10100)) (ty := .long) (C := RX5) (T := TX5) (N := 21) hx hb hts i_X5_mark_X5 tyX5 tyX5_ok nmX5 hown hK.1 hP hD hS 0 rfl rfl 12 (by decide) f173 (fun _ h9 => h9) rfl (by decide +kernel) rfl rfl (Nat.le_of_ble_eq_true rfl) dX5_mark_153 (fun H locs hP hD hS => ?_)
              have hP : va_P G.1 vwCl (wMd a G.2.1 G.2.2.1 (m.text, m.len, m.pl, m.loss, m.nich, m.st, m.book, m.undos, m.imgs, m.kept, m.heard, m.hm, (m.trail + 1) + 10100, m.pos, m.wrong, m.items, m.rp, m.rl, m.sl, m.rn, m.read)) H := hP
              have hD : va_D A (wMd a G.2.1 G.2.2.1 (m.text, m.len, m.pl, m.loss, m.nich, m.st, m.book, m.undos, m.imgs, m.kept, m.heard, m.hm, (m.trail + 1) + 10100, m.pos, m.wrong, m.items, m.rp, m.rl, m.sl, m.rn, m.read)) := hD
              refine lv_iload_n hx hb dX5_mark_156 rfl (lv_at hl 0 rfl) ?_
              refine lv_aload_n hx hb dX5_mark_157 rfl (lv_at hl 1 rfl) ?_
              refine va_get (D := G.1) (ci := 5) (v := .ref (a 2)) (C := RX5) (T := TX5) (N := 21) hx hb hts i_X5_mark_X5 hown hK.1 hP 0 rfl rfl 5 (by decide) f20 (fun _ h9 => h9) rfl dX5_mark_158 ?_
              refine lv_bipush (v := 10) hx hb dX5_mark_161 (by decide) ?_
              refine lv_iload_n hx hb dX5_mark_163 rfl (lv_at hl 3 rfl) ?_
              refine g_top (y := nI s.toNatClampNeg) (hsj) ?_
              refine lv_iadd hx hb dX5_mark_164 ?_
              refine g_top (y := nI (10 + s.toNatClampNeg)) (nI_add 10 s.toNatClampNeg) ?_
              refine g_iald hx hb hK.1 hP 2 0 rfl rfl (i := (10 + s.toNatClampNeg)) (by omega) (by decide) dX5_mark_165 ?_
              refine lv_isub hx hb dX5_mark_166 ?_
              refine lv_iload_n hx hb dX5_mark_167 rfl (lv_at hl 3 rfl) ?_
              refine lv_iadd hx hb dX5_mark_168 ?_
              have hP : va_P G.1 vwCl (wMd a G.2.1 G.2.2.1 (m.text, m.len, m.pl, m.loss, m.nich, m.st, m.book, m.undos, m.imgs, m.kept, m.heard, m.hm, yMaT m kd s, m.pos, m.wrong, m.items, m.rp, m.rl, m.sl, m.rn, m.read)) H := by
                rw [yMaT] <;> (first | rw [if_pos c_1] | rw [if_neg c_1] | rw [if_neg (by rw [c_1]; decide)] | skip) <;> (first | rw [if_pos c_2] | rw [if_neg c_2] | rw [if_neg (by rw [c_2]; decide)] | skip) <;> (first | rw [if_pos k_3] | rw [if_neg k_3] | rw [if_neg (by rw [k_3]; decide)] | skip) <;> (first | rw [if_pos k_4] | rw [if_neg k_4] | rw [if_neg (by rw [k_4]; decide)] | skip) <;> (first | rw [if_pos k_5] | rw [if_neg k_5] | rw [if_neg (by rw [k_5]; decide)] | skip) <;> (first | rw [if_pos k_6] | rw [if_neg k_6] | rw [if_neg (by rw [k_6]; decide)] | skip)
                exact hP
              exact g_wi hx hb hr hlocks hAe hP hS dX5_mark_169 (by rw [yMaR] <;> (first | done | rw [if_pos c_1] | rw [if_neg c_1] | rw [if_neg (by rw [c_1]; decide)] | skip) <;> (first | done | rw [if_pos c_2] | rw [if_neg c_2] | rw [if_neg (by rw [c_2]; decide)] | skip) <;> (first | done | rw [if_pos k_3] | rw [if_neg k_3] | rw [if_neg (by rw [k_3]; decide)] | skip) <;> (first | done | rw [if_pos k_4] | rw [if_neg k_4] | rw [if_neg (by rw [k_4]; decide)] | skip) <;> (first | done | rw [if_pos k_5] | rw [if_neg k_5] | rw [if_neg (by rw [k_5]; decide)] | skip) <;> (first | done | rw [if_pos k_6] | rw [if_neg k_6] | rw [if_neg (by rw [k_6]; decide)] | skip) <;> (first | done | rfl | (simp only [c_1, c_2, k_3, k_4, k_5, k_6]; rfl) | (simp [c_1, c_2, k_3, k_4, k_5, k_6, bI]; done)))
            · skip
              by_cases k_7 : kd = 5
              · refine lv_tableIn (tgt := 170) hx hb dX5_mark_41 (by rw [k_7]; decide) (by rw [k_7]; decide) (by rw [k_7]; rfl) (by decide) ?_
                refine lv_aload_n hx hb dX5_mark_170 rfl (lv_at hl 1 rfl) ?_
                refine lv_dup hx hb dX5_mark_171 rfl ?_
                refine va_get (D := G.1) (ci := 5) (v := .long (m.trail + 1)) (C := RX5) (T := TX5) (N := 21) hx hb hts i_X5_mark_X5 hown hK.1 hP 0 rfl rfl 12 (by decide) f173 (fun _ h9 => h9) rfl dX5_mark_172 ?_
                refine lv_ldc2 (v := 100000) hx hb hown fk185 dX5_mark_175 ?_
                refine lv_ladd hx hb dX5_mark_178 ?_
                refine va_put (D := G.1) (ci := 5) (v := .long ((m.trail + 1) + 100000)) (ty := .long) (C := RX5) (T := TX5) (N := 21) hx hb hts i_X5_mark_X5 tyX5 tyX5_ok nmX5 hown hK.1 hP hD hS 0 rfl rfl 12 (by decide) f173 (fun _ h9 => h9) rfl (by decide +kernel) rfl rfl (Nat.le_of_ble_eq_true rfl) dX5_mark_179 (fun H locs hP hD hS => ?_)
                have hP : va_P G.1 vwCl (wMd a G.2.1 G.2.2.1 (m.text, m.len, m.pl, m.loss, m.nich, m.st, m.book, m.undos, m.imgs, m.kept, m.heard, m.hm, (m.trail + 1) + 100000, m.pos, m.wrong, m.items, m.rp, m.rl, m.sl, m.rn, m.read)) H := hP
                have hD : va_D A (wMd a G.2.1 G.2.2.1 (m.text, m.len, m.pl, m.loss, m.nich, m.st, m.book, m.undos, m.imgs, m.kept, m.heard, m.hm, (m.trail + 1) + 100000, m.pos, m.wrong, m.items, m.rp, m.rl, m.sl, m.rn, m.read)) := hD
                generalize hgt : m.trail + 1 + 100000 = tv at hP hD ⊢
                refine lv_iload_n hx hb dX5_mark_182 rfl (lv_at hl 0 rfl) ?_
                refine lv_aload_n hx hb dX5_mark_183 rfl (lv_at hl 1 rfl) ?_
                refine lv_iload_n hx hb dX5_mark_184 rfl (lv_at hl 3 rfl) ?_
                refine g_top (y := nI s.toNatClampNeg) (hsj) ?_
                refine lv_iconst (v := 0) hx hb dX5_mark_185 (by decide) ?_
                refine g_rdV (As := [.int (nI s.toNatClampNeg), .int 0]) (rest := [.int (m.st (26 + s.toNatClampNeg))]) (nL := 4) hx hb hml hown hts (c_X5_placeOf lz G a (m.text, m.len, m.pl, m.loss, m.nich, m.st, m.book, m.undos, m.imgs, m.kept, m.heard, m.hm, tv, m.pos, m.wrong, m.items, m.rp, m.rl, m.sl, m.rn, m.read) s.toNatClampNeg 0 (by omega) hpl) gX5_mark_X5_placeOf rfl h_X5_placeOf ⟨Nat.le_of_ble_eq_true rfl, Nat.le_of_ble_eq_true rfl⟩ hK hP (ci := 5) rfl rfl rfl rfl hl.1 rfl (Nat.le_of_ble_eq_true rfl) ⟨Nat.le_refl _, Nat.le_refl _⟩ dX5_mark_186 ?_
                refine lv_iadd hx hb dX5_mark_189 ?_
                rw [← hgt] at hP
                have hP : va_P G.1 vwCl (wMd a G.2.1 G.2.2.1 (m.text, m.len, m.pl, m.loss, m.nich, m.st, m.book, m.undos, m.imgs, m.kept, m.heard, m.hm, yMaT m kd s, m.pos, m.wrong, m.items, m.rp, m.rl, m.sl, m.rn, m.read)) H := by
                  rw [yMaT] <;> (first | rw [if_pos c_1] | rw [if_neg c_1] | rw [if_neg (by rw [c_1]; decide)] | skip) <;> (first | rw [if_pos c_2] | rw [if_neg c_2] | rw [if_neg (by rw [c_2]; decide)] | skip) <;> (first | rw [if_pos k_3] | rw [if_neg k_3] | rw [if_neg (by rw [k_3]; decide)] | skip) <;> (first | rw [if_pos k_4] | rw [if_neg k_4] | rw [if_neg (by rw [k_4]; decide)] | skip) <;> (first | rw [if_pos k_5] | rw [if_neg k_5] | rw [if_neg (by rw [k_5]; decide)] | skip) <;> (first | rw [if_pos k_6] | rw [if_neg k_6] | rw [if_neg (by rw [k_6]; decide)] | skip) <;> (first | rw [if_pos k_7] | rw [if_neg k_7] | rw [if_neg (by rw [k_7]; decide)] | skip)
                  exact hP
                exact g_wi hx hb hr hlocks hAe hP hS dX5_mark_190 (by rw [yMaR] <;> (first | done | rw [if_pos c_1] | rw [if_neg c_1] | rw [if_neg (by rw [c_1]; decide)] | skip) <;> (first | done | rw [if_pos c_2] | rw [if_neg c_2] | rw [if_neg (by rw [c_2]; decide)] | skip) <;> (first | done | rw [if_pos k_3] | rw [if_neg k_3] | rw [if_neg (by rw [k_3]; decide)] | skip) <;> (first | done | rw [if_pos k_4] | rw [if_neg k_4] | rw [if_neg (by rw [k_4]; decide)] | skip) <;> (first | done | rw [if_pos k_5] | rw [if_neg k_5] | rw [if_neg (by rw [k_5]; decide)] | skip) <;> (first | done | rw [if_pos k_6] | rw [if_neg k_6] | rw [if_neg (by rw [k_6]; decide)] | skip) <;> (first | done | rw [if_pos k_7] | rw [if_neg k_7] | rw [if_neg (by rw [k_7]; decide)] | skip) <;> (first | done | rfl | (simp only [c_1, c_2, k_3, k_4, k_5, k_6, k_7]; rfl) | (simp [c_1, c_2, k_3, k_4, k_5, k_6, k_7, bI]; done)))
              · skip
                refine lv_tableOut (tgt := 191) hx hb dX5_mark_41 (by have n0 := lv_neT k_3 (a := 1) (by decide); have n1 := lv_neT k_4 (a := 2) (by decide); have n2 := lv_neT k_5 (a := 3) (by decide); have n3 := lv_neT k_6 (a := 4) (by decide); have n4 := lv_neT k_7 (a := 5) (by decide); omega) (by decide) ?_
                refine lv_iload_n hx hb dX5_mark_191 rfl (lv_at hl 0 rfl) ?_
                have hP : va_P G.1 vwCl (wMd a G.2.1 G.2.2.1 (m.text, m.len, m.pl, m.loss, m.nich, m.st, m.book, m.undos, m.imgs, m.kept, m.heard, m.hm, yMaT m kd s, m.pos, m.wrong, m.items, m.rp, m.rl, m.sl, m.rn, m.read)) H := by
                  rw [yMaT] <;> (first | rw [if_pos c_1] | rw [if_neg c_1] | rw [if_neg (by rw [c_1]; decide)] | skip) <;> (first | rw [if_pos c_2] | rw [if_neg c_2] | rw [if_neg (by rw [c_2]; decide)] | skip) <;> (first | rw [if_pos k_3] | rw [if_neg k_3] | rw [if_neg (by rw [k_3]; decide)] | skip) <;> (first | rw [if_pos k_4] | rw [if_neg k_4] | rw [if_neg (by rw [k_4]; decide)] | skip) <;> (first | rw [if_pos k_5] | rw [if_neg k_5] | rw [if_neg (by rw [k_5]; decide)] | skip) <;> (first | rw [if_pos k_6] | rw [if_neg k_6] | rw [if_neg (by rw [k_6]; decide)] | skip) <;> (first | rw [if_pos k_7] | rw [if_neg k_7] | rw [if_neg (by rw [k_7]; decide)] | skip)
                  exact hP
                exact g_wi hx hb hr hlocks hAe hP hS dX5_mark_192 (by rw [yMaR] <;> (first | done | rw [if_pos c_1] | rw [if_neg c_1] | rw [if_neg (by rw [c_1]; decide)] | skip) <;> (first | done | rw [if_pos c_2] | rw [if_neg c_2] | rw [if_neg (by rw [c_2]; decide)] | skip) <;> (first | done | rw [if_pos k_3] | rw [if_neg k_3] | rw [if_neg (by rw [k_3]; decide)] | skip) <;> (first | done | rw [if_pos k_4] | rw [if_neg k_4] | rw [if_neg (by rw [k_4]; decide)] | skip) <;> (first | done | rw [if_pos k_5] | rw [if_neg k_5] | rw [if_neg (by rw [k_5]; decide)] | skip) <;> (first | done | rw [if_pos k_6] | rw [if_neg k_6] | rw [if_neg (by rw [k_6]; decide)] | skip) <;> (first | done | rw [if_pos k_7] | rw [if_neg k_7] | rw [if_neg (by rw [k_7]; decide)] | skip) <;> (first | done | rfl | (simp only [c_1, c_2, k_3, k_4, k_5, k_6, k_7]; rfl) | (simp [c_1, c_2, k_3, k_4, k_5, k_6, k_7, bI]; done)))
    · skip
      have c_2 := bI_0 c_2
      refine lv_ldc (v := (-1000000)) hx hb hown fk172 dX5_mark_17 ?_
      have hP : va_P G.1 vwCl (wMd a G.2.1 G.2.2.1 (m.text, m.len, m.pl, m.loss, m.nich, m.st, m.book, m.undos, m.imgs, m.kept, m.heard, m.hm, yMaT m kd s, m.pos, m.wrong, m.items, m.rp, m.rl, m.sl, m.rn, m.read)) sz.heap := by
        rw [yMaT] <;> (first | rw [if_pos c_1] | rw [if_neg c_1] | rw [if_neg (by rw [c_1]; decide)] | skip) <;> (first | rw [if_pos c_2] | rw [if_neg c_2] | rw [if_neg (by rw [c_2]; decide)] | skip)
        exact hP
      exact g_wi hx hb hr hlocks hAe hP hS dX5_mark_19 (by rw [yMaR] <;> (first | done | rw [if_pos c_1] | rw [if_neg c_1] | rw [if_neg (by rw [c_1]; decide)] | skip) <;> (first | done | rw [if_pos c_2] | rw [if_neg c_2] | rw [if_neg (by rw [c_2]; decide)] | skip) <;> (first | done | rfl | (simp only [c_1, c_2]; rfl) | (simp [c_1, c_2, bI]; done)))

theorem i_X5_keep_X5 : ∀ w ∈ wsX50, w ∈ wsX5_keep := by decide +kernel
theorem h_X5_keep : yX5_keep.cls = RX5 ∧ yX5_keep.cls ≠ "java/lang/invoke/MethodHandle" ∧ yX5_keep.cls ≠ "java/lang/invoke/VarHandle" ∧ (parseMethodDescriptor yX5_keep.desc).map (fun d => d.parameters.length) = some 1 := by decide +kernel
set_option maxHeartbeats 4000000 in
set_option maxRecDepth 100000 in
theorem c_X5_keep (lz : Launch) (G : gG) (a : Nat → Nat) (m : MdS) (im : Int32) : gWr lz yX5_keep wsX5_keep 1 G [.ref (a 0), .int im] (wMd a G.2.1 G.2.2.1 m) (wMd a G.2.1 G.2.2.1 (m.text, m.len, m.pl, m.loss, m.nich, m.st, m.book, m.undos, yKeI m im, yKeK m im, m.heard, m.hm, m.trail, m.pos, m.wrong, m.items, m.rp, m.rl, m.sl, m.rn, m.read)) (some (.int (if wIn im 0 1 then m.st 0 else -1))) := by
  refine g_wr (by decide) rfl (Nat.le_of_ble_eq_true rfl) ?_
  intro pz ez sz mz bz tz cz hx hb hr hml hown hts hlocks hK A hAe hP hD hS ls hl
  have hl : lv_has ls 3 [(0, .ref (a 0)), (1, .int im)] := hl
  have f20 := hts (.fieldLink RX5 20 "WhisperRingModel" "st" "[I") (by decide +kernel)
  have f23 := hts (.fieldLink RX5 23 "WhisperRingModel" "book" "[I") (by decide +kernel)
  have f26 := hts (.fieldLink RX5 26 "WhisperRingModel" "images" "[I") (by decide +kernel)
  have f29 := hts (.fieldLink RX5 29 "WhisperRingModel" "isKept" "[Z") (by decide +kernel)
  have f95 := hts (.fieldLink RX5 95 "WhisperRingModel" "undos" "I") (by decide +kernel)
  refine lv_iload_n hx hb dX5_keep_0 rfl (lv_at hl 1 rfl) ?_
  refine lv_iconst (v := 0) hx hb dX5_keep_1 (by decide) ?_
  refine lv_iconst (v := 1) hx hb dX5_keep_2 (by decide) ?_
  refine g_rdS (As := [.int im, .int 0, .int 1]) (rest := []) (nL := 3) hx hb hml hown hts (c_X5_in lz G im 0 1) gX5_keep_X5_in rfl h_X5_in ⟨Nat.le_of_ble_eq_true rfl, Nat.le_of_ble_eq_true rfl⟩ hK gP_nil rfl hl.1 rfl (Nat.le_of_ble_eq_true rfl) ⟨Nat.le_refl _, Nat.le_refl _⟩ dX5_keep_3 ?_
  refine lv_if_ne (tgt := 11) hx hb dX5_keep_6 (by decide) (fun c_1 => ?_) (fun c_1 => ?_)
  · skip
    have c_1 := bI_1 c_1
    obtain ⟨hj1, hji⟩ := wIn_nn (k := 1) (by decide) c_1
    refine lv_sipush (v := 551) hx hb dX5_keep_11 (by decide) ?_
    refine lv_iload_n hx hb dX5_keep_14 rfl (lv_at hl 1 rfl) ?_
    refine g_top (y := nI im.toNatClampNeg) (hji) ?_
    refine lv_imul hx hb dX5_keep_15 ?_
    refine g_top (y := nI (551 * im.toNatClampNeg)) (pk_mul 551 im.toNatClampNeg) ?_
    refine lv_istore_n (lv' := [(2, .int (nI (551 * im.toNatClampNeg))), (0, .ref (a 0)), (1, .int im)]) hx hb dX5_keep_16 rfl hl (by decide) rfl (fun ls hl => ?_)
    refine lv_aload_n hx hb dX5_keep_17 rfl (lv_at hl 1 rfl) ?_
    refine va_get (D := G.1) (ci := 5) (v := .ref (a 5)) (C := RX5) (T := TX5) (N := 21) hx hb hts i_X5_keep_X5 hown hK.1 hP 0 rfl rfl 9 (by decide) f29 (fun _ h9 => h9) rfl dX5_keep_18 ?_
    refine lv_iload_n hx hb dX5_keep_21 rfl (lv_at hl 2 rfl) ?_
    refine g_top (y := nI im.toNatClampNeg) (hji) ?_
    refine lv_iconst (v := 1) hx hb dX5_keep_22 (by decide) ?_
    refine g_zast hx hb hK.1 hP hD hS 5 1 rfl rfl (i := im.toNatClampNeg) (by omega) (by decide) rfl dX5_keep_23 (fun H locs hP hD hS => ?_)
    have hP : va_P G.1 vwCl (wMd a G.2.1 G.2.2.1 (m.text, m.len, m.pl, m.loss, m.nich, m.st, m.book, m.undos, m.imgs, upd m.kept im.toNatClampNeg 1, m.heard, m.hm, m.trail, m.pos, m.wrong, m.items, m.rp, m.rl, m.sl, m.rn, m.read)) H := hP
    have hD : va_D A (wMd a G.2.1 G.2.2.1 (m.text, m.len, m.pl, m.loss, m.nich, m.st, m.book, m.undos, m.imgs, upd m.kept im.toNatClampNeg 1, m.heard, m.hm, m.trail, m.pos, m.wrong, m.items, m.rp, m.rl, m.sl, m.rn, m.read)) := hD
    refine lv_aload_n hx hb dX5_keep_24 rfl (lv_at hl 1 rfl) ?_
    refine va_get (D := G.1) (ci := 5) (v := .ref (a 4)) (C := RX5) (T := TX5) (N := 21) hx hb hts i_X5_keep_X5 hown hK.1 hP 0 rfl rfl 8 (by decide) f26 (fun _ h9 => h9) rfl dX5_keep_25 ?_
    refine lv_iload_n hx hb dX5_keep_28 rfl (lv_at hl 0 rfl) ?_
    refine lv_aload_n hx hb dX5_keep_29 rfl (lv_at hl 1 rfl) ?_
    refine va_get (D := G.1) (ci := 5) (v := .int m.undos) (C := RX5) (T := TX5) (N := 21) hx hb hts i_X5_keep_X5 hown hK.1 hP 0 rfl rfl 7 (by decide) f95 (fun _ h9 => h9) rfl dX5_keep_30 ?_
    refine g_iast hx hb hK.1 hP hD hS 4 0 rfl rfl (i := (551 * im.toNatClampNeg)) (by omega) (by decide) dX5_keep_33 (fun H locs hP hD hS => ?_)
    have hP : va_P G.1 vwCl (wMd a G.2.1 G.2.2.1 (m.text, m.len, m.pl, m.loss, m.nich, m.st, m.book, m.undos, upd m.imgs (551 * im.toNatClampNeg) m.undos, upd m.kept im.toNatClampNeg 1, m.heard, m.hm, m.trail, m.pos, m.wrong, m.items, m.rp, m.rl, m.sl, m.rn, m.read)) H := hP
    have hD : va_D A (wMd a G.2.1 G.2.2.1 (m.text, m.len, m.pl, m.loss, m.nich, m.st, m.book, m.undos, upd m.imgs (551 * im.toNatClampNeg) m.undos, upd m.kept im.toNatClampNeg 1, m.heard, m.hm, m.trail, m.pos, m.wrong, m.items, m.rp, m.rl, m.sl, m.rn, m.read)) := hD
    refine lv_aload_n hx hb dX5_keep_34 rfl (lv_at hl 1 rfl) ?_
    refine va_get (D := G.1) (ci := 5) (v := .ref (a 2)) (C := RX5) (T := TX5) (N := 21) hx hb hts i_X5_keep_X5 hown hK.1 hP 0 rfl rfl 5 (by decide) f20 (fun _ h9 => h9) rfl dX5_keep_35 ?_
    refine lv_iconst (v := 0) hx hb dX5_keep_38 (by decide) ?_
    refine lv_aload_n hx hb dX5_keep_39 rfl (lv_at hl 1 rfl) ?_
    refine va_get (D := G.1) (ci := 5) (v := .ref (a 4)) (C := RX5) (T := TX5) (N := 21) hx hb hts i_X5_keep_X5 hown hK.1 hP 0 rfl rfl 8 (by decide) f26 (fun _ h9 => h9) rfl dX5_keep_40 ?_
    refine lv_iload_n hx hb dX5_keep_43 rfl (lv_at hl 0 rfl) ?_
    refine lv_iconst (v := 1) hx hb dX5_keep_44 (by decide) ?_
    refine lv_iadd hx hb dX5_keep_45 ?_
    refine g_top (y := nI ((551 * im.toNatClampNeg) + 1)) (nI_add (551 * im.toNatClampNeg) 1) ?_
    refine lv_bipush (v := 50) hx hb dX5_keep_46 (by decide) ?_
    refine g_wrS (As := [.ref (a 2), .int 0, .ref (a 4), .int (nI ((551 * im.toNatClampNeg) + 1)), .int 50]) (rest := []) (nL := 3) hx hb hml hown hts (c_X5_bring lz G (a 2) (a 4) 50 1102 0 ((551 * im.toNatClampNeg) + 1) 50 m.st (upd m.imgs (551 * im.toNatClampNeg) m.undos) (by omega) (by omega) (by decide) (by decide)) gX5_keep_X5_bring rfl h_X5_bring ⟨Nat.le_of_ble_eq_true rfl, Nat.le_of_ble_eq_true rfl⟩ hK hP hD hS [2, 4] rfl rfl rfl (ws1 := wMd a G.2.1 G.2.2.1 (m.text, m.len, m.pl, m.loss, m.nich, m.st, m.book, m.undos, va_cpy m.st (upd m.imgs (551 * im.toNatClampNeg) m.undos) 0 ((551 * im.toNatClampNeg) + 1) 50, upd m.kept im.toNatClampNeg 1, m.heard, m.hm, m.trail, m.pos, m.wrong, m.items, m.rp, m.rl, m.sl, m.rn, m.read)) rfl [a 0, a 1, a 2, a 3, a 4, a 5, a 6, a 7] rfl rfl rfl hl.1 rfl (Nat.le_of_ble_eq_true rfl) ⟨Nat.le_refl _, Nat.le_refl _⟩ dX5_keep_48 (fun H locs hP hD hS => ?_)
    refine lv_aload_n hx hb dX5_keep_51 rfl (lv_at hl 1 rfl) ?_
    refine va_get (D := G.1) (ci := 5) (v := .ref (a 3)) (C := RX5) (T := TX5) (N := 21) hx hb hts i_X5_keep_X5 hown hK.1 hP 0 rfl rfl 6 (by decide) f23 (fun _ h9 => h9) rfl dX5_keep_52 ?_
    refine lv_iconst (v := 0) hx hb dX5_keep_55 (by decide) ?_
    refine lv_aload_n hx hb dX5_keep_56 rfl (lv_at hl 1 rfl) ?_
    refine va_get (D := G.1) (ci := 5) (v := .ref (a 4)) (C := RX5) (T := TX5) (N := 21) hx hb hts i_X5_keep_X5 hown hK.1 hP 0 rfl rfl 8 (by decide) f26 (fun _ h9 => h9) rfl dX5_keep_57 ?_
    refine lv_iload_n hx hb dX5_keep_60 rfl (lv_at hl 0 rfl) ?_
    refine lv_iconst (v := 1) hx hb dX5_keep_61 (by decide) ?_
    refine lv_iadd hx hb dX5_keep_62 ?_
    refine g_top (y := nI ((551 * im.toNatClampNeg) + 1)) (nI_add (551 * im.toNatClampNeg) 1) ?_
    refine lv_bipush (v := 50) hx hb dX5_keep_63 (by decide) ?_
    refine lv_iadd hx hb dX5_keep_65 ?_
    refine g_top (y := nI (((551 * im.toNatClampNeg) + 1) + 50)) (nI_add ((551 * im.toNatClampNeg) + 1) 50) ?_
    refine lv_sipush (v := 500) hx hb dX5_keep_66 (by decide) ?_
    refine g_wrS (As := [.ref (a 3), .int 0, .ref (a 4), .int (nI (((551 * im.toNatClampNeg) + 1) + 50)), .int 500]) (rest := []) (nL := 3) hx hb hml hown hts (c_X5_bring lz G (a 3) (a 4) 500 1102 0 (((551 * im.toNatClampNeg) + 1) + 50) 500 m.book (va_cpy m.st (upd m.imgs (551 * im.toNatClampNeg) m.undos) 0 ((551 * im.toNatClampNeg) + 1) 50) (by omega) (by omega) (by decide) (by decide)) gX5_keep_X5_bring rfl h_X5_bring ⟨Nat.le_of_ble_eq_true rfl, Nat.le_of_ble_eq_true rfl⟩ hK hP hD hS [3, 4] rfl rfl rfl (ws1 := wMd a G.2.1 G.2.2.1 (m.text, m.len, m.pl, m.loss, m.nich, m.st, m.book, m.undos, va_cpy m.book (va_cpy m.st (upd m.imgs (551 * im.toNatClampNeg) m.undos) 0 ((551 * im.toNatClampNeg) + 1) 50) 0 (((551 * im.toNatClampNeg) + 1) + 50) 500, upd m.kept im.toNatClampNeg 1, m.heard, m.hm, m.trail, m.pos, m.wrong, m.items, m.rp, m.rl, m.sl, m.rn, m.read)) rfl [a 0, a 1, a 2, a 3, a 4, a 5, a 6, a 7] rfl rfl rfl hl.1 rfl (Nat.le_of_ble_eq_true rfl) ⟨Nat.le_refl _, Nat.le_refl _⟩ dX5_keep_69 (fun H locs hP hD hS => ?_)
    refine lv_aload_n hx hb dX5_keep_72 rfl (lv_at hl 1 rfl) ?_
    refine va_get (D := G.1) (ci := 5) (v := .ref (a 2)) (C := RX5) (T := TX5) (N := 21) hx hb hts i_X5_keep_X5 hown hK.1 hP 0 rfl rfl 5 (by decide) f20 (fun _ h9 => h9) rfl dX5_keep_73 ?_
    refine lv_iconst (v := 0) hx hb dX5_keep_76 (by decide) ?_
    refine g_top (y := nI 0) rfl ?_
    refine g_iald hx hb hK.1 hP 2 0 rfl rfl (i := 0) (by omega) (by decide) dX5_keep_77 ?_
    have hP : va_P G.1 vwCl (wMd a G.2.1 G.2.2.1 (m.text, m.len, m.pl, m.loss, m.nich, m.st, m.book, m.undos, yKeI m im, yKeK m im, m.heard, m.hm, m.trail, m.pos, m.wrong, m.items, m.rp, m.rl, m.sl, m.rn, m.read)) H := by
      rw [yKeI, yKeK] <;> (first | rw [if_pos c_1, if_pos c_1] | rw [if_neg c_1, if_neg c_1] | rw [if_neg (by rw [c_1]; decide), if_neg (by rw [c_1]; decide)] | skip)
      exact hP
    exact g_wi hx hb hr hlocks hAe hP hS dX5_keep_78 (by (first | done | rw [if_pos c_1] | rw [if_neg c_1] | rw [if_neg (by rw [c_1]; decide)] | skip) <;> (first | done | rfl))
  · skip
    have c_1 := bI_0 c_1
    refine lv_iconst (v := (-1)) hx hb dX5_keep_9 (by decide) ?_
    have hP : va_P G.1 vwCl (wMd a G.2.1 G.2.2.1 (m.text, m.len, m.pl, m.loss, m.nich, m.st, m.book, m.undos, yKeI m im, yKeK m im, m.heard, m.hm, m.trail, m.pos, m.wrong, m.items, m.rp, m.rl, m.sl, m.rn, m.read)) sz.heap := by
      rw [yKeI, yKeK] <;> (first | rw [if_pos c_1, if_pos c_1] | rw [if_neg c_1, if_neg c_1] | rw [if_neg (by rw [c_1]; decide), if_neg (by rw [c_1]; decide)] | skip)
      exact hP
    exact g_wi hx hb hr hlocks hAe hP hS dX5_keep_10 (by (first | done | rw [if_pos c_1] | rw [if_neg c_1] | rw [if_neg (by rw [c_1]; decide)] | skip) <;> (first | done | rfl))

theorem i_X5_back_X5 : ∀ w ∈ wsX50, w ∈ wsX5_back := by decide +kernel
theorem h_X5_back : yX5_back.cls = RX5 ∧ yX5_back.cls ≠ "java/lang/invoke/MethodHandle" ∧ yX5_back.cls ≠ "java/lang/invoke/VarHandle" ∧ (parseMethodDescriptor yX5_back.desc).map (fun d => d.parameters.length) = some 1 := by decide +kernel
set_option maxHeartbeats 4000000 in
set_option maxRecDepth 100000 in
theorem c_X5_back (lz : Launch) (G : gG) (a : Nat → Nat) (m : MdS) (im : Int32) : gWr lz yX5_back wsX5_back 1 G [.ref (a 0), .int im] (wMd a G.2.1 G.2.2.1 m) (wMd a G.2.1 G.2.2.1 (m.text, m.len, m.pl, m.loss, m.nich, yBaSt m im, yBaB m im, yBaU m im, m.imgs, m.kept, m.heard, m.hm, m.trail, m.pos, m.wrong, m.items, m.rp, m.rl, m.sl, m.rn, m.read)) (some (.int (yBaR m im))) := by
  refine g_wr (by decide) rfl (Nat.le_of_ble_eq_true rfl) ?_
  intro pz ez sz mz bz tz cz hx hb hr hml hown hts hlocks hK A hAe hP hD hS ls hl
  have hl : lv_has ls 3 [(0, .ref (a 0)), (1, .int im)] := hl
  have f20 := hts (.fieldLink RX5 20 "WhisperRingModel" "st" "[I") (by decide +kernel)
  have f23 := hts (.fieldLink RX5 23 "WhisperRingModel" "book" "[I") (by decide +kernel)
  have f26 := hts (.fieldLink RX5 26 "WhisperRingModel" "images" "[I") (by decide +kernel)
  have f29 := hts (.fieldLink RX5 29 "WhisperRingModel" "isKept" "[Z") (by decide +kernel)
  have f95 := hts (.fieldLink RX5 95 "WhisperRingModel" "undos" "I") (by decide +kernel)
  refine lv_iload_n hx hb dX5_back_0 rfl (lv_at hl 1 rfl) ?_
  refine lv_iconst (v := 0) hx hb dX5_back_1 (by decide) ?_
  refine lv_iconst (v := 1) hx hb dX5_back_2 (by decide) ?_
  refine g_rdS (As := [.int im, .int 0, .int 1]) (rest := []) (nL := 3) hx hb hml hown hts (c_X5_in lz G im 0 1) gX5_back_X5_in rfl h_X5_in ⟨Nat.le_of_ble_eq_true rfl, Nat.le_of_ble_eq_true rfl⟩ hK gP_nil rfl hl.1 rfl (Nat.le_of_ble_eq_true rfl) ⟨Nat.le_refl _, Nat.le_refl _⟩ dX5_back_3 ?_
  refine lv_if_ne (tgt := 11) hx hb dX5_back_6 (by decide) (fun c_1 => ?_) (fun c_1 => ?_)
  · skip
    have c_1 := bI_1 c_1
    obtain ⟨hj1, hji⟩ := wIn_nn (k := 1) (by decide) c_1
    refine lv_aload_n hx hb dX5_back_11 rfl (lv_at hl 0 rfl) ?_
    refine va_get (D := G.1) (ci := 5) (v := .ref (a 5)) (C := RX5) (T := TX5) (N := 21) hx hb hts i_X5_back_X5 hown hK.1 hP 0 rfl rfl 9 (by decide) f29 (fun _ h9 => h9) rfl dX5_back_12 ?_
    refine lv_iload_n hx hb dX5_back_15 rfl (lv_at hl 1 rfl) ?_
    refine g_top (y := nI im.toNatClampNeg) (hji) ?_
    refine g_zald hx hb hK.1 hP 5 1 rfl rfl (i := im.toNatClampNeg) (by omega) (by decide) dX5_back_16 ?_
    refine lv_if_ne (tgt := 23) hx hb dX5_back_17 (by decide) (fun c_2 => ?_) (fun c_2 => ?_)
    · skip
      refine lv_sipush (v := 551) hx hb dX5_back_23 (by decide) ?_
      refine lv_iload_n hx hb dX5_back_26 rfl (lv_at hl 1 rfl) ?_
      refine g_top (y := nI im.toNatClampNeg) (hji) ?_
      refine lv_imul hx hb dX5_back_27 ?_
      refine g_top (y := nI (551 * im.toNatClampNeg)) (pk_mul 551 im.toNatClampNeg) ?_
      refine lv_istore_n (lv' := [(2, .int (nI (551 * im.toNatClampNeg))), (0, .ref (a 0)), (1, .int im)]) hx hb dX5_back_28 rfl hl (by decide) rfl (fun ls hl => ?_)
      refine lv_aload_n hx hb dX5_back_29 rfl (lv_at hl 1 rfl) ?_
      refine lv_aload_n hx hb dX5_back_30 rfl (lv_at hl 1 rfl) ?_
      refine va_get (D := G.1) (ci := 5) (v := .ref (a 4)) (C := RX5) (T := TX5) (N := 21) hx hb hts i_X5_back_X5 hown hK.1 hP 0 rfl rfl 8 (by decide) f26 (fun _ h9 => h9) rfl dX5_back_31 ?_
      refine lv_iload_n hx hb dX5_back_34 rfl (lv_at hl 0 rfl) ?_
      refine g_iald hx hb hK.1 hP 4 0 rfl rfl (i := (551 * im.toNatClampNeg)) (by omega) (by decide) dX5_back_35 ?_
      refine va_put (D := G.1) (ci := 5) (v := .int (m.imgs (551 * im.toNatClampNeg))) (ty := .int) (C := RX5) (T := TX5) (N := 21) hx hb hts i_X5_back_X5 tyX5 tyX5_ok nmX5 hown hK.1 hP hD hS 0 rfl rfl 7 (by decide) f95 (fun _ h9 => h9) rfl (by decide +kernel) rfl rfl (Nat.le_of_ble_eq_true rfl) dX5_back_36 (fun H locs hP hD hS => ?_)
      have hP : va_P G.1 vwCl (wMd a G.2.1 G.2.2.1 (m.text, m.len, m.pl, m.loss, m.nich, m.st, m.book, m.imgs (551 * im.toNatClampNeg), m.imgs, m.kept, m.heard, m.hm, m.trail, m.pos, m.wrong, m.items, m.rp, m.rl, m.sl, m.rn, m.read)) H := hP
      have hD : va_D A (wMd a G.2.1 G.2.2.1 (m.text, m.len, m.pl, m.loss, m.nich, m.st, m.book, m.imgs (551 * im.toNatClampNeg), m.imgs, m.kept, m.heard, m.hm, m.trail, m.pos, m.wrong, m.items, m.rp, m.rl, m.sl, m.rn, m.read)) := hD
      refine lv_aload_n hx hb dX5_back_39 rfl (lv_at hl 1 rfl) ?_
      refine va_get (D := G.1) (ci := 5) (v := .ref (a 4)) (C := RX5) (T := TX5) (N := 21) hx hb hts i_X5_back_X5 hown hK.1 hP 0 rfl rfl 8 (by decide) f26 (fun _ h9 => h9) rfl dX5_back_40 ?_
      refine lv_iload_n hx hb dX5_back_43 rfl (lv_at hl 0 rfl) ?_
      refine lv_iconst (v := 1) hx hb dX5_back_44 (by decide) ?_
      refine lv_iadd hx hb dX5_back_45 ?_
      refine g_top (y := nI ((551 * im.toNatClampNeg) + 1)) (nI_add (551 * im.toNatClampNeg) 1) ?_
      refine lv_aload_n hx hb dX5_back_46 rfl (lv_at hl 1 rfl) ?_
      refine va_get (D := G.1) (ci := 5) (v := .ref (a 2)) (C := RX5) (T := TX5) (N := 21) hx hb hts i_X5_back_X5 hown hK.1 hP 0 rfl rfl 5 (by decide) f20 (fun _ h9 => h9) rfl dX5_back_47 ?_
      refine lv_iconst (v := 0) hx hb dX5_back_50 (by decide) ?_
      refine lv_bipush (v := 50) hx hb dX5_back_51 (by decide) ?_
      refine g_wrS (As := [.ref (a 4), .int (nI ((551 * im.toNatClampNeg) + 1)), .ref (a 2), .int 0, .int 50]) (rest := []) (nL := 3) hx hb hml hown hts (c_X5_bring lz G (a 4) (a 2) 1102 50 ((551 * im.toNatClampNeg) + 1) 0 50 m.imgs m.st (by omega) (by omega) (by decide) (by decide)) gX5_back_X5_bring rfl h_X5_bring ⟨Nat.le_of_ble_eq_true rfl, Nat.le_of_ble_eq_true rfl⟩ hK hP hD hS [4, 2] rfl rfl rfl (ws1 := wMd a G.2.1 G.2.2.1 (m.text, m.len, m.pl, m.loss, m.nich, va_cpy m.imgs m.st ((551 * im.toNatClampNeg) + 1) 0 50, m.book, m.imgs (551 * im.toNatClampNeg), m.imgs, m.kept, m.heard, m.hm, m.trail, m.pos, m.wrong, m.items, m.rp, m.rl, m.sl, m.rn, m.read)) rfl [a 0, a 1, a 2, a 3, a 4, a 5, a 6, a 7] rfl rfl rfl hl.1 rfl (Nat.le_of_ble_eq_true rfl) ⟨Nat.le_refl _, Nat.le_refl _⟩ dX5_back_53 (fun H locs hP hD hS => ?_)
      refine lv_aload_n hx hb dX5_back_56 rfl (lv_at hl 1 rfl) ?_
      refine va_get (D := G.1) (ci := 5) (v := .ref (a 4)) (C := RX5) (T := TX5) (N := 21) hx hb hts i_X5_back_X5 hown hK.1 hP 0 rfl rfl 8 (by decide) f26 (fun _ h9 => h9) rfl dX5_back_57 ?_
      refine lv_iload_n hx hb dX5_back_60 rfl (lv_at hl 0 rfl) ?_
      refine lv_iconst (v := 1) hx hb dX5_back_61 (by decide) ?_
      refine lv_iadd hx hb dX5_back_62 ?_
      refine g_top (y := nI ((551 * im.toNatClampNeg) + 1)) (nI_add (551 * im.toNatClampNeg) 1) ?_
      refine lv_bipush (v := 50) hx hb dX5_back_63 (by decide) ?_
      refine lv_iadd hx hb dX5_back_65 ?_
      refine g_top (y := nI (((551 * im.toNatClampNeg) + 1) + 50)) (nI_add ((551 * im.toNatClampNeg) + 1) 50) ?_
      refine lv_aload_n hx hb dX5_back_66 rfl (lv_at hl 1 rfl) ?_
      refine va_get (D := G.1) (ci := 5) (v := .ref (a 3)) (C := RX5) (T := TX5) (N := 21) hx hb hts i_X5_back_X5 hown hK.1 hP 0 rfl rfl 6 (by decide) f23 (fun _ h9 => h9) rfl dX5_back_67 ?_
      refine lv_iconst (v := 0) hx hb dX5_back_70 (by decide) ?_
      refine lv_sipush (v := 500) hx hb dX5_back_71 (by decide) ?_
      refine g_wrS (As := [.ref (a 4), .int (nI (((551 * im.toNatClampNeg) + 1) + 50)), .ref (a 3), .int 0, .int 500]) (rest := []) (nL := 3) hx hb hml hown hts (c_X5_bring lz G (a 4) (a 3) 1102 500 (((551 * im.toNatClampNeg) + 1) + 50) 0 500 m.imgs m.book (by omega) (by omega) (by decide) (by decide)) gX5_back_X5_bring rfl h_X5_bring ⟨Nat.le_of_ble_eq_true rfl, Nat.le_of_ble_eq_true rfl⟩ hK hP hD hS [4, 3] rfl rfl rfl (ws1 := wMd a G.2.1 G.2.2.1 (m.text, m.len, m.pl, m.loss, m.nich, va_cpy m.imgs m.st ((551 * im.toNatClampNeg) + 1) 0 50, va_cpy m.imgs m.book (((551 * im.toNatClampNeg) + 1) + 50) 0 500, m.imgs (551 * im.toNatClampNeg), m.imgs, m.kept, m.heard, m.hm, m.trail, m.pos, m.wrong, m.items, m.rp, m.rl, m.sl, m.rn, m.read)) rfl [a 0, a 1, a 2, a 3, a 4, a 5, a 6, a 7] rfl rfl rfl hl.1 rfl (Nat.le_of_ble_eq_true rfl) ⟨Nat.le_refl _, Nat.le_refl _⟩ dX5_back_74 (fun H locs hP hD hS => ?_)
      refine lv_aload_n hx hb dX5_back_77 rfl (lv_at hl 1 rfl) ?_
      refine va_get (D := G.1) (ci := 5) (v := .ref (a 2)) (C := RX5) (T := TX5) (N := 21) hx hb hts i_X5_back_X5 hown hK.1 hP 0 rfl rfl 5 (by decide) f20 (fun _ h9 => h9) rfl dX5_back_78 ?_
      refine lv_iconst (v := 0) hx hb dX5_back_81 (by decide) ?_
      refine g_top (y := nI 0) rfl ?_
      refine g_iald hx hb hK.1 hP 2 0 rfl rfl (i := 0) (by omega) (by decide) dX5_back_82 ?_
      have hP : va_P G.1 vwCl (wMd a G.2.1 G.2.2.1 (m.text, m.len, m.pl, m.loss, m.nich, yBaSt m im, yBaB m im, yBaU m im, m.imgs, m.kept, m.heard, m.hm, m.trail, m.pos, m.wrong, m.items, m.rp, m.rl, m.sl, m.rn, m.read)) H := by
        rw [yBaSt, yBaB, yBaU] <;> (first | rw [if_pos c_1, if_pos c_1, if_pos c_1] | rw [if_neg c_1, if_neg c_1, if_neg c_1] | rw [if_neg (by rw [c_1]; decide), if_neg (by rw [c_1]; decide), if_neg (by rw [c_1]; decide)] | skip) <;> (first | rw [if_pos c_2, if_pos c_2, if_pos c_2] | rw [if_neg c_2, if_neg c_2, if_neg c_2] | rw [if_neg (by rw [c_2]; decide), if_neg (by rw [c_2]; decide), if_neg (by rw [c_2]; decide)] | skip)
        exact hP
      exact g_wi hx hb hr hlocks hAe hP hS dX5_back_83 (by rw [yBaR] <;> (first | done | rw [if_pos c_1] | rw [if_neg c_1] | rw [if_neg (by rw [c_1]; decide)] | skip) <;> (first | done | rw [if_pos c_2] | rw [if_neg c_2] | rw [if_neg (by rw [c_2]; decide)] | skip) <;> (first | done | rfl | (simp only [c_1, c_2]; rfl) | (simp [c_1, c_2, bI]; done)))
    · skip
      refine lv_bipush (v := (-2)) hx hb dX5_back_20 (by decide) ?_
      have hP : va_P G.1 vwCl (wMd a G.2.1 G.2.2.1 (m.text, m.len, m.pl, m.loss, m.nich, yBaSt m im, yBaB m im, yBaU m im, m.imgs, m.kept, m.heard, m.hm, m.trail, m.pos, m.wrong, m.items, m.rp, m.rl, m.sl, m.rn, m.read)) sz.heap := by
        rw [yBaSt, yBaB, yBaU] <;> (first | rw [if_pos c_1, if_pos c_1, if_pos c_1] | rw [if_neg c_1, if_neg c_1, if_neg c_1] | rw [if_neg (by rw [c_1]; decide), if_neg (by rw [c_1]; decide), if_neg (by rw [c_1]; decide)] | skip) <;> (first | rw [if_pos c_2, if_pos c_2, if_pos c_2] | rw [if_neg c_2, if_neg c_2, if_neg c_2] | rw [if_neg (by rw [c_2]; decide), if_neg (by rw [c_2]; decide), if_neg (by rw [c_2]; decide)] | skip)
        exact hP
      exact g_wi hx hb hr hlocks hAe hP hS dX5_back_22 (by rw [yBaR] <;> (first | done | rw [if_pos c_1] | rw [if_neg c_1] | rw [if_neg (by rw [c_1]; decide)] | skip) <;> (first | done | rw [if_pos c_2] | rw [if_neg c_2] | rw [if_neg (by rw [c_2]; decide)] | skip) <;> (first | done | rfl | (simp only [c_1, c_2]; rfl) | (simp [c_1, c_2, bI]; done)))
  · skip
    have c_1 := bI_0 c_1
    refine lv_iconst (v := (-1)) hx hb dX5_back_9 (by decide) ?_
    have hP : va_P G.1 vwCl (wMd a G.2.1 G.2.2.1 (m.text, m.len, m.pl, m.loss, m.nich, yBaSt m im, yBaB m im, yBaU m im, m.imgs, m.kept, m.heard, m.hm, m.trail, m.pos, m.wrong, m.items, m.rp, m.rl, m.sl, m.rn, m.read)) sz.heap := by
      rw [yBaSt, yBaB, yBaU] <;> (first | rw [if_pos c_1, if_pos c_1, if_pos c_1] | rw [if_neg c_1, if_neg c_1, if_neg c_1] | rw [if_neg (by rw [c_1]; decide), if_neg (by rw [c_1]; decide), if_neg (by rw [c_1]; decide)] | skip)
      exact hP
    exact g_wi hx hb hr hlocks hAe hP hS dX5_back_10 (by rw [yBaR] <;> (first | done | rw [if_pos c_1] | rw [if_neg c_1] | rw [if_neg (by rw [c_1]; decide)] | skip) <;> (first | done | rfl | (simp only [c_1]; rfl) | (simp [c_1, bI]; done)))

theorem i_X5_count_X5 : ∀ w ∈ wsX50, w ∈ wsX5_count := by decide +kernel
theorem h_X5_count : yX5_count.cls = RX5 ∧ yX5_count.cls ≠ "java/lang/invoke/MethodHandle" ∧ yX5_count.cls ≠ "java/lang/invoke/VarHandle" ∧ (parseMethodDescriptor yX5_count.desc).map (fun d => d.parameters.length) = some 1 := by decide +kernel
set_option maxHeartbeats 4000000 in
set_option maxRecDepth 100000 in
theorem c_X5_count (lz : Launch) (G : gG) (a : Nat → Nat) (m : MdS) (what : Int32) : gRd lz yX5_count wsX5_count 1 G [.ref (a 0), .int what] (wMd a G.2.1 G.2.2.1 m) (yCoR m what) := by
  refine g_rd (by decide) rfl (Nat.le_of_ble_eq_true rfl) ?_
  intro pz ez sz mz bz tz cz hx hb hr hml hown hts hlocks hP hK ls hl
  have hl : lv_has ls 2 [(0, .ref (a 0)), (1, .int what)] := hl
  have f13 := hts (.fieldLink RX5 13 "WhisperRingModel" "places" "I") (by decide +kernel)
  have f17 := hts (.fieldLink RX5 17 "WhisperRingModel" "loss" "I") (by decide +kernel)
  have f20 := hts (.fieldLink RX5 20 "WhisperRingModel" "st" "[I") (by decide +kernel)
  have f43 := hts (.fieldLink RX5 43 "WhisperRingModel" "length" "I") (by decide +kernel)
  have f88 := hts (.fieldLink RX5 88 "WhisperRingModel" "niches" "I") (by decide +kernel)
  have f95 := hts (.fieldLink RX5 95 "WhisperRingModel" "undos" "I") (by decide +kernel)
  have f98 := hts (.fieldLink RX5 98 "WhisperRingModel" "heardMany" "I") (by decide +kernel)
  refine lv_iload_n hx hb dX5_count_0 rfl (lv_at hl 1 rfl) ?_
  by_cases k_1 : what = 0
  · refine lv_tableIn (tgt := 44) hx hb dX5_count_1 (by rw [k_1]; decide) (by rw [k_1]; decide) (by rw [k_1]; rfl) (by decide) ?_
    refine lv_aload_n hx hb dX5_count_44 rfl (lv_at hl 0 rfl) ?_
    refine va_get (D := G.1) (ci := 5) (v := .int m.pl) (C := RX5) (T := TX5) (N := 21) hx hb hts i_X5_count_X5 hown hK.1 hP 0 rfl rfl 2 (by decide) f13 (fun _ h9 => h9) rfl dX5_count_45 ?_
    exact g_ri hx hb hr hlocks dX5_count_48 (by rw [yCoR] <;> (first | done | rw [if_pos k_1] | rw [if_neg k_1] | rw [if_neg (by rw [k_1]; decide)] | skip) <;> (first | done | rfl | (simp only [k_1]; rfl) | (simp [k_1, bI]; done)))
  · skip
    by_cases k_2 : what = 1
    · refine lv_tableIn (tgt := 49) hx hb dX5_count_1 (by rw [k_2]; decide) (by rw [k_2]; decide) (by rw [k_2]; rfl) (by decide) ?_
      refine lv_aload_n hx hb dX5_count_49 rfl (lv_at hl 0 rfl) ?_
      refine va_get (D := G.1) (ci := 5) (v := .ref (a 2)) (C := RX5) (T := TX5) (N := 21) hx hb hts i_X5_count_X5 hown hK.1 hP 0 rfl rfl 5 (by decide) f20 (fun _ h9 => h9) rfl dX5_count_50 ?_
      refine lv_iconst (v := 1) hx hb dX5_count_53 (by decide) ?_
      refine g_top (y := nI 1) rfl ?_
      refine g_iald hx hb hK.1 hP 2 0 rfl rfl (i := 1) (by omega) (by decide) dX5_count_54 ?_
      exact g_ri hx hb hr hlocks dX5_count_55 (by rw [yCoR] <;> (first | done | rw [if_pos k_1] | rw [if_neg k_1] | rw [if_neg (by rw [k_1]; decide)] | skip) <;> (first | done | rw [if_pos k_2] | rw [if_neg k_2] | rw [if_neg (by rw [k_2]; decide)] | skip) <;> (first | done | rfl | (simp only [k_1, k_2]; rfl) | (simp [k_1, k_2, bI]; done)))
    · skip
      by_cases k_3 : what = 2
      · refine lv_tableIn (tgt := 56) hx hb dX5_count_1 (by rw [k_3]; decide) (by rw [k_3]; decide) (by rw [k_3]; rfl) (by decide) ?_
        refine lv_aload_n hx hb dX5_count_56 rfl (lv_at hl 0 rfl) ?_
        refine va_get (D := G.1) (ci := 5) (v := .int m.loss) (C := RX5) (T := TX5) (N := 21) hx hb hts i_X5_count_X5 hown hK.1 hP 0 rfl rfl 3 (by decide) f17 (fun _ h9 => h9) rfl dX5_count_57 ?_
        exact g_ri hx hb hr hlocks dX5_count_60 (by rw [yCoR] <;> (first | done | rw [if_pos k_1] | rw [if_neg k_1] | rw [if_neg (by rw [k_1]; decide)] | skip) <;> (first | done | rw [if_pos k_2] | rw [if_neg k_2] | rw [if_neg (by rw [k_2]; decide)] | skip) <;> (first | done | rw [if_pos k_3] | rw [if_neg k_3] | rw [if_neg (by rw [k_3]; decide)] | skip) <;> (first | done | rfl | (simp only [k_1, k_2, k_3]; rfl) | (simp [k_1, k_2, k_3, bI]; done)))
      · skip
        by_cases k_4 : what = 3
        · refine lv_tableIn (tgt := 61) hx hb dX5_count_1 (by rw [k_4]; decide) (by rw [k_4]; decide) (by rw [k_4]; rfl) (by decide) ?_
          refine lv_aload_n hx hb dX5_count_61 rfl (lv_at hl 0 rfl) ?_
          refine va_get (D := G.1) (ci := 5) (v := .int m.nich) (C := RX5) (T := TX5) (N := 21) hx hb hts i_X5_count_X5 hown hK.1 hP 0 rfl rfl 4 (by decide) f88 (fun _ h9 => h9) rfl dX5_count_62 ?_
          refine g_rdS (As := [.int m.nich]) (rest := []) (nL := 2) hx hb hml hown hts (c_X5_bits lz G m.nich) gX5_count_X5_bits rfl h_X5_bits ⟨Nat.le_of_ble_eq_true rfl, Nat.le_of_ble_eq_true rfl⟩ hK gP_nil rfl hl.1 rfl (Nat.le_of_ble_eq_true rfl) ⟨Nat.le_refl _, Nat.le_refl _⟩ dX5_count_65 ?_
          exact g_ri hx hb hr hlocks dX5_count_68 (by rw [yCoR] <;> (first | done | rw [if_pos k_1] | rw [if_neg k_1] | rw [if_neg (by rw [k_1]; decide)] | skip) <;> (first | done | rw [if_pos k_2] | rw [if_neg k_2] | rw [if_neg (by rw [k_2]; decide)] | skip) <;> (first | done | rw [if_pos k_3] | rw [if_neg k_3] | rw [if_neg (by rw [k_3]; decide)] | skip) <;> (first | done | rw [if_pos k_4] | rw [if_neg k_4] | rw [if_neg (by rw [k_4]; decide)] | skip) <;> (first | done | rfl | (simp only [k_1, k_2, k_3, k_4]; rfl) | (simp [k_1, k_2, k_3, k_4, bI]; done)))
        · skip
          by_cases k_5 : what = 4
          · refine lv_tableIn (tgt := 69) hx hb dX5_count_1 (by rw [k_5]; decide) (by rw [k_5]; decide) (by rw [k_5]; rfl) (by decide) ?_
            refine lv_aload_n hx hb dX5_count_69 rfl (lv_at hl 0 rfl) ?_
            refine va_get (D := G.1) (ci := 5) (v := .int m.hm) (C := RX5) (T := TX5) (N := 21) hx hb hts i_X5_count_X5 hown hK.1 hP 0 rfl rfl 11 (by decide) f98 (fun _ h9 => h9) rfl dX5_count_70 ?_
            exact g_ri hx hb hr hlocks dX5_count_73 (by rw [yCoR] <;> (first | done | rw [if_pos k_1] | rw [if_neg k_1] | rw [if_neg (by rw [k_1]; decide)] | skip) <;> (first | done | rw [if_pos k_2] | rw [if_neg k_2] | rw [if_neg (by rw [k_2]; decide)] | skip) <;> (first | done | rw [if_pos k_3] | rw [if_neg k_3] | rw [if_neg (by rw [k_3]; decide)] | skip) <;> (first | done | rw [if_pos k_4] | rw [if_neg k_4] | rw [if_neg (by rw [k_4]; decide)] | skip) <;> (first | done | rw [if_pos k_5] | rw [if_neg k_5] | rw [if_neg (by rw [k_5]; decide)] | skip) <;> (first | done | rfl | (simp only [k_1, k_2, k_3, k_4, k_5]; rfl) | (simp [k_1, k_2, k_3, k_4, k_5, bI]; done)))
          · skip
            by_cases k_6 : what = 5
            · refine lv_tableIn (tgt := 74) hx hb dX5_count_1 (by rw [k_6]; decide) (by rw [k_6]; decide) (by rw [k_6]; rfl) (by decide) ?_
              refine lv_aload_n hx hb dX5_count_74 rfl (lv_at hl 0 rfl) ?_
              refine va_get (D := G.1) (ci := 5) (v := .int m.undos) (C := RX5) (T := TX5) (N := 21) hx hb hts i_X5_count_X5 hown hK.1 hP 0 rfl rfl 7 (by decide) f95 (fun _ h9 => h9) rfl dX5_count_75 ?_
              exact g_ri hx hb hr hlocks dX5_count_78 (by rw [yCoR] <;> (first | done | rw [if_pos k_1] | rw [if_neg k_1] | rw [if_neg (by rw [k_1]; decide)] | skip) <;> (first | done | rw [if_pos k_2] | rw [if_neg k_2] | rw [if_neg (by rw [k_2]; decide)] | skip) <;> (first | done | rw [if_pos k_3] | rw [if_neg k_3] | rw [if_neg (by rw [k_3]; decide)] | skip) <;> (first | done | rw [if_pos k_4] | rw [if_neg k_4] | rw [if_neg (by rw [k_4]; decide)] | skip) <;> (first | done | rw [if_pos k_5] | rw [if_neg k_5] | rw [if_neg (by rw [k_5]; decide)] | skip) <;> (first | done | rw [if_pos k_6] | rw [if_neg k_6] | rw [if_neg (by rw [k_6]; decide)] | skip) <;> (first | done | rfl | (simp only [k_1, k_2, k_3, k_4, k_5, k_6]; rfl) | (simp [k_1, k_2, k_3, k_4, k_5, k_6, bI]; done)))
            · skip
              by_cases k_7 : what = 6
              · refine lv_tableIn (tgt := 79) hx hb dX5_count_1 (by rw [k_7]; decide) (by rw [k_7]; decide) (by rw [k_7]; rfl) (by decide) ?_
                refine lv_aload_n hx hb dX5_count_79 rfl (lv_at hl 0 rfl) ?_
                refine va_get (D := G.1) (ci := 5) (v := .int m.len) (C := RX5) (T := TX5) (N := 21) hx hb hts i_X5_count_X5 hown hK.1 hP 0 rfl rfl 1 (by decide) f43 (fun _ h9 => h9) rfl dX5_count_80 ?_
                exact g_ri hx hb hr hlocks dX5_count_83 (by rw [yCoR] <;> (first | done | rw [if_pos k_1] | rw [if_neg k_1] | rw [if_neg (by rw [k_1]; decide)] | skip) <;> (first | done | rw [if_pos k_2] | rw [if_neg k_2] | rw [if_neg (by rw [k_2]; decide)] | skip) <;> (first | done | rw [if_pos k_3] | rw [if_neg k_3] | rw [if_neg (by rw [k_3]; decide)] | skip) <;> (first | done | rw [if_pos k_4] | rw [if_neg k_4] | rw [if_neg (by rw [k_4]; decide)] | skip) <;> (first | done | rw [if_pos k_5] | rw [if_neg k_5] | rw [if_neg (by rw [k_5]; decide)] | skip) <;> (first | done | rw [if_pos k_6] | rw [if_neg k_6] | rw [if_neg (by rw [k_6]; decide)] | skip) <;> (first | done | rw [if_pos k_7] | rw [if_neg k_7] | rw [if_neg (by rw [k_7]; decide)] | skip) <;> (first | done | rfl | (simp only [k_1, k_2, k_3, k_4, k_5, k_6, k_7]; rfl) | (simp [k_1, k_2, k_3, k_4, k_5, k_6, k_7, bI]; done)))
              · skip
                refine lv_tableOut (tgt := 84) hx hb dX5_count_1 (by have n0 := lv_neT k_1 (a := 0) (by decide); have n1 := lv_neT k_2 (a := 1) (by decide); have n2 := lv_neT k_3 (a := 2) (by decide); have n3 := lv_neT k_4 (a := 3) (by decide); have n4 := lv_neT k_5 (a := 4) (by decide); have n5 := lv_neT k_6 (a := 5) (by decide); have n6 := lv_neT k_7 (a := 6) (by decide); omega) (by decide) ?_
                refine lv_iconst (v := (-1)) hx hb dX5_count_84 (by decide) ?_
                exact g_ri hx hb hr hlocks dX5_count_85 (by rw [yCoR] <;> (first | done | rw [if_pos k_1] | rw [if_neg k_1] | rw [if_neg (by rw [k_1]; decide)] | skip) <;> (first | done | rw [if_pos k_2] | rw [if_neg k_2] | rw [if_neg (by rw [k_2]; decide)] | skip) <;> (first | done | rw [if_pos k_3] | rw [if_neg k_3] | rw [if_neg (by rw [k_3]; decide)] | skip) <;> (first | done | rw [if_pos k_4] | rw [if_neg k_4] | rw [if_neg (by rw [k_4]; decide)] | skip) <;> (first | done | rw [if_pos k_5] | rw [if_neg k_5] | rw [if_neg (by rw [k_5]; decide)] | skip) <;> (first | done | rw [if_pos k_6] | rw [if_neg k_6] | rw [if_neg (by rw [k_6]; decide)] | skip) <;> (first | done | rw [if_pos k_7] | rw [if_neg k_7] | rw [if_neg (by rw [k_7]; decide)] | skip) <;> (first | done | rfl | (simp only [k_1, k_2, k_3, k_4, k_5, k_6, k_7]; rfl) | (simp [k_1, k_2, k_3, k_4, k_5, k_6, k_7, bI]; done)))

theorem i_X5_trace_X5 : ∀ w ∈ wsX50, w ∈ wsX5_trace := by decide +kernel
theorem h_X5_trace : yX5_trace.cls = RX5 ∧ yX5_trace.cls ≠ "java/lang/invoke/MethodHandle" ∧ yX5_trace.cls ≠ "java/lang/invoke/VarHandle" ∧ (parseMethodDescriptor yX5_trace.desc).map (fun d => d.parameters.length) = some 0 := by decide +kernel
set_option maxHeartbeats 4000000 in
set_option maxRecDepth 100000 in
theorem c_X5_trace (lz : Launch) (G : gG) (a : Nat → Nat) (m : MdS)  : gWr lz yX5_trace wsX5_trace 0 G [.ref (a 0)] (wMd a G.2.1 G.2.2.1 m) (wMd a G.2.1 G.2.2.1 m) (some (.long m.trail)) := by
  refine g_wr (by decide) rfl (Nat.le_of_ble_eq_true rfl) ?_
  intro pz ez sz mz bz tz cz hx hb hr hml hown hts hlocks hK A hAe hP hD hS ls hl
  have hl : lv_has ls 1 [(0, .ref (a 0))] := hl
  have f173 := hts (.fieldLink RX5 173 "WhisperRingModel" "trail" "J") (by decide +kernel)
  refine lv_aload_n hx hb dX5_trace_0 rfl (lv_at hl 0 rfl) ?_
  refine va_get (D := G.1) (ci := 5) (v := .long m.trail) (C := RX5) (T := TX5) (N := 21) hx hb hts i_X5_trace_X5 hown hK.1 hP 0 rfl rfl 12 (by decide) f173 (fun _ h9 => h9) rfl dX5_trace_1 ?_
  exact g_wl hx hb hr hlocks hAe hP hS dX5_trace_4 rfl
