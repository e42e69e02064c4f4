noncomputable def dNS (m : MdS) (i : Nat) (lo hi : Int32) : MdS := mRd (dNum m lo hi) (upd (dNum m lo hi).read i (dNumR m lo hi))
def dS5 (m : MdS) : MdS := mRd m (upd m.read 1 (m.read 1 + 1))
noncomputable def dSayD (m : MdS) (n : Nat) : MdS := dEnd (dS5 (dNS (dNS (dNS (dNS m (2 + n) 0 (m.rp - 1)) (10 + n) 1 6) (18 + n) 0 1) (26 + n) 1 30))
theorem dSay_ex : ∃ f : MdS → Nat → MdS, ∀ m n, f m n = dSayD m n := ⟨dSayD, fun _ _ => rfl⟩
noncomputable def dSay : MdS → Nat → MdS := Classical.choose dSay_ex
theorem dSay_def (m : MdS) (n : Nat) : dSay m n = dSayD m n := Classical.choose_spec dSay_ex m n
theorem dOK_ns {m : MdS} {i : Nat} {lo hi : Int32} (h : dOK m) : dOK (dNS m i lo hi) := dOK_rd (dOK_num h)
theorem dOK_say {m : MdS} {n : Nat} (hn : n < 8) (h : dOK m) : dOK (dSay m n) := by
  rw [dSay_def]
  exact dOK_end (dOK_rd (dOK_ns (dOK_ns (dOK_ns (dOK_ns h)))))
def dIn (m : MdS) : MdS := mPos m (m.pos + 1)
def dAlone (m : MdS) : Bool := if m.pos + 1 < m.len then !wIn (m.text (m.pos + 1).toNatClampNeg) 97 122 else true
def dMay (m : MdS) : Bool := (decide (dHere m = 110) && decide (m.items = 0)) || (decide (dHere m = 108) && decide (m.sl = 0)) || decide (dHere m = 104) || (decide (dHere m = 115) && decide (m.read 1 < 8))
noncomputable def dItmD (m : MdS) : MdS := if dMay m && dAlone m then (if dHere m = 110 then dEnd (mRp (dNum (dIn m) 4 24) (dNumR (dIn m) 4 24)) else if dHere m = 108 then dEnd (mRl (dNum (mSl (dIn m) 1) 1 9) (dNumR (mSl (dIn m) 1) 1 9)) else if dHere m = 104 then dEnd (mRn (dNum (dIn m) 0 ((dIn m).rp - 1)) ((dIn m).rn ||| ((1 : Int32) <<< (dNumR (dIn m) 0 ((dIn m).rp - 1) &&& 31)))) else dSay (dIn m) (m.read 1).toNatClampNeg) else mWr m m.pos
theorem dItm_ex : ∃ f : MdS → MdS, ∀ m, f m = dItmD m := ⟨dItmD, fun _ => rfl⟩
noncomputable def dItm : MdS → MdS := Classical.choose dItm_ex
theorem dItm_def (m : MdS) : dItm m = dItmD m := Classical.choose_spec dItm_ex m
theorem i_X5_readSaying_X5 : ∀ w ∈ wsX50, w ∈ wsX5_readSaying := by decide +kernel
theorem h_X5_readSaying : yX5_readSaying.cls = RX5 ∧ yX5_readSaying.cls ≠ "java/lang/invoke/MethodHandle" ∧ yX5_readSaying.cls ≠ "java/lang/invoke/VarHandle" ∧ (parseMethodDescriptor yX5_readSaying.desc).map (fun d => d.parameters.length) = some 0 := by decide +kernel
set_option maxHeartbeats 4000000 in
set_option maxRecDepth 100000 in
theorem c_X5_readSaying (lz : Launch) (G : gG) (a : Nat → Nat) (m : MdS) (n : Nat) (hrd : m.read 1 = nI n) (hn : n < 8) (hok : dOK m) : gWr lz yX5_readSaying wsX5_readSaying 3 G [.ref (a 0)] (wMd a G.2.1 G.2.2.1 m) (wMd a G.2.1 G.2.2.1 (dSay m n)) none := by
  refine g_wr (by decide) rfl (Nat.le_of_ble_eq_true rfl) ?_
  intro pz ez sz mz bz tz cz hx hb hr hml hown hts hlocks hK A hAe hP hD hS ls hl
  have hl : lv_has ls 2 [(0, .ref (a 0))] := hl
  have f36 := hts (.fieldLink RX5 36 "WhisperRingModel" "read" "[I") (by decide +kernel)
  have f62 := hts (.fieldLink RX5 62 "WhisperRingModel" "readPlaces" "I") (by decide +kernel)
  skip
  refine lv_aload_n hx hb dX5_readSaying_0 rfl (lv_at hl 0 rfl) ?_
  refine va_get (D := G.1) (ci := 5) (v := .ref (a 7)) (C := RX5) (T := TX5) (N := 21) hx hb hts i_X5_readSaying_X5 hown hK.1 hP 0 rfl rfl 20 (by decide) f36 (fun _ h9 => h9) rfl dX5_readSaying_1 ?_
  refine lv_iconst (v := 1) hx hb dX5_readSaying_4 (by decide) ?_
  refine g_top (y := nI 1) rfl ?_
  refine g_iald hx hb hK.1 hP 7 0 rfl rfl (i := 1) (by omega) (by decide) dX5_readSaying_5 ?_
  refine g_top (y := nI n) (hrd) ?_
  refine lv_istore_n (lv' := [(1, .int (nI n)), (0, .ref (a 0))]) hx hb dX5_readSaying_6 rfl hl (by decide) rfl (fun ls hl => ?_)
  refine lv_aload_n hx hb dX5_readSaying_7 rfl (lv_at hl 1 rfl) ?_
  refine va_get (D := G.1) (ci := 5) (v := .ref (a 7)) (C := RX5) (T := TX5) (N := 21) hx hb hts i_X5_readSaying_X5 hown hK.1 hP 0 rfl rfl 20 (by decide) f36 (fun _ h9 => h9) rfl dX5_readSaying_8 ?_
  refine lv_iconst (v := 2) hx hb dX5_readSaying_11 (by decide) ?_
  refine lv_iload_n hx hb dX5_readSaying_12 rfl (lv_at hl 0 rfl) ?_
  refine lv_iadd hx hb dX5_readSaying_13 ?_
  refine g_top (y := nI (2 + n)) (nI_add 2 n) ?_
  refine lv_aload_n hx hb dX5_readSaying_14 rfl (lv_at hl 1 rfl) ?_
  refine lv_iconst (v := 0) hx hb dX5_readSaying_15 (by decide) ?_
  refine lv_aload_n hx hb dX5_readSaying_16 rfl (lv_at hl 1 rfl) ?_
  refine va_get (D := G.1) (ci := 5) (v := .int m.rp) (C := RX5) (T := TX5) (N := 21) hx hb hts i_X5_readSaying_X5 hown hK.1 hP 0 rfl rfl 16 (by decide) f62 (fun _ h9 => h9) rfl dX5_readSaying_17 ?_
  refine lv_iconst (v := 1) hx hb dX5_readSaying_20 (by decide) ?_
  refine lv_isub hx hb dX5_readSaying_21 ?_
  refine g_wrV (As := [.int 0, .int (m.rp - 1)]) (rest := [.int (nI (2 + n)), .ref (a 7)]) (nL := 2) hx hb hml hown hts (c_X5_number lz G a m 0 (m.rp - 1) hok) gX5_readSaying_X5_number rfl h_X5_number ⟨Nat.le_of_ble_eq_true rfl, Nat.le_of_ble_eq_true rfl⟩ hK hP hD hS [0, 1, 2, 3, 4, 5, 6, 7] rfl rfl rfl (ws1 := wMd a G.2.1 G.2.2.1 (dNum m 0 (m.rp - 1))) rfl [a 0, a 1, a 2, a 3, a 4, a 5, a 6, a 7] rfl rfl (ci := 5) rfl rfl rfl rfl hl.1 rfl (Nat.le_of_ble_eq_true rfl) ⟨Nat.le_refl _, Nat.le_refl _⟩ dX5_readSaying_22 (fun H locs hP hD hS => ?_)
  generalize ht1 : dNum m 0 (m.rp - 1) = t1 at hP hD ⊢
  have okt1 : dOK t1 := by
    rw [← ht1]
    exact dOK_num hok
  obtain ⟨w1, hw1⟩ : ∃ w : Int32, w = dNumR m 0 (m.rp - 1) := ⟨_, rfl⟩
  refine g_top (y := w1) hw1.symm ?_
  have hP : va_P G.1 vwCl (wMd a G.2.1 G.2.2.1 t1) H := hP
  have hD : va_D A (wMd a G.2.1 G.2.2.1 t1) := hD
  refine g_iast hx hb hK.1 hP hD hS 7 0 rfl rfl (i := (2 + n)) (by omega) (by decide) dX5_readSaying_25 (fun H locs hP hD hS => ?_)
  obtain ⟨t2, ht2⟩ : ∃ u_ : MdS, u_ = mRd t1 (upd t1.read (2 + n) w1) := ⟨_, rfl⟩
  have hP : va_P G.1 vwCl (wMd a G.2.1 G.2.2.1 t2) H := by
    rw [ht2]
    exact hP
  have hD : va_D A (wMd a G.2.1 G.2.2.1 t2) := by
    rw [ht2]
    exact hD
  have okt2 : dOK t2 := by
    rw [ht2]
    exact okt1
  refine lv_aload_n hx hb dX5_readSaying_26 rfl (lv_at hl 1 rfl) ?_
  refine va_get (D := G.1) (ci := 5) (v := .ref (a 7)) (C := RX5) (T := TX5) (N := 21) hx hb hts i_X5_readSaying_X5 hown hK.1 hP 0 rfl rfl 20 (by decide) f36 (fun _ h9 => h9) rfl dX5_readSaying_27 ?_
  refine lv_bipush (v := 10) hx hb dX5_readSaying_30 (by decide) ?_
  refine lv_iload_n hx hb dX5_readSaying_32 rfl (lv_at hl 0 rfl) ?_
  refine lv_iadd hx hb dX5_readSaying_33 ?_
  refine g_top (y := nI (10 + n)) (nI_add 10 n) ?_
  refine lv_aload_n hx hb dX5_readSaying_34 rfl (lv_at hl 1 rfl) ?_
  refine lv_iconst (v := 1) hx hb dX5_readSaying_35 (by decide) ?_
  refine lv_bipush (v := 6) hx hb dX5_readSaying_36 (by decide) ?_
  refine g_wrV (As := [.int 1, .int 6]) (rest := [.int (nI (10 + n)), .ref (a 7)]) (nL := 2) hx hb hml hown hts (c_X5_number lz G a t2 1 6 okt2) gX5_readSaying_X5_number rfl h_X5_number ⟨Nat.le_of_ble_eq_true rfl, Nat.le_of_ble_eq_true rfl⟩ hK hP hD hS [0, 1, 2, 3, 4, 5, 6, 7] rfl rfl rfl (ws1 := wMd a G.2.1 G.2.2.1 (dNum t2 1 6)) rfl [a 0, a 1, a 2, a 3, a 4, a 5, a 6, a 7] rfl rfl (ci := 5) rfl rfl rfl rfl hl.1 rfl (Nat.le_of_ble_eq_true rfl) ⟨Nat.le_refl _, Nat.le_refl _⟩ dX5_readSaying_38 (fun H locs hP hD hS => ?_)
  generalize ht3 : dNum t2 1 6 = t3 at hP hD ⊢
  have okt3 : dOK t3 := by
    rw [← ht3]
    exact dOK_num okt2
  obtain ⟨w3, hw3⟩ : ∃ w : Int32, w = dNumR t2 1 6 := ⟨_, rfl⟩
  refine g_top (y := w3) hw3.symm ?_
  have hP : va_P G.1 vwCl (wMd a G.2.1 G.2.2.1 t3) H := hP
  have hD : va_D A (wMd a G.2.1 G.2.2.1 t3) := hD
  refine g_iast hx hb hK.1 hP hD hS 7 0 rfl rfl (i := (10 + n)) (by omega) (by decide) dX5_readSaying_41 (fun H locs hP hD hS => ?_)
  obtain ⟨t4, ht4⟩ : ∃ u_ : MdS, u_ = mRd t3 (upd t3.read (10 + n) w3) := ⟨_, rfl⟩
  have hP : va_P G.1 vwCl (wMd a G.2.1 G.2.2.1 t4) H := by
    rw [ht4]
    exact hP
  have hD : va_D A (wMd a G.2.1 G.2.2.1 t4) := by
    rw [ht4]
    exact hD
  have okt4 : dOK t4 := by
    rw [ht4]
    exact okt3
  refine lv_aload_n hx hb dX5_readSaying_42 rfl (lv_at hl 1 rfl) ?_
  refine va_get (D := G.1) (ci := 5) (v := .ref (a 7)) (C := RX5) (T := TX5) (N := 21) hx hb hts i_X5_readSaying_X5 hown hK.1 hP 0 rfl rfl 20 (by decide) f36 (fun _ h9 => h9) rfl dX5_readSaying_43 ?_
  refine lv_bipush (v := 18) hx hb dX5_readSaying_46 (by decide) ?_
  refine lv_iload_n hx hb dX5_readSaying_48 rfl (lv_at hl 0 rfl) ?_
  refine lv_iadd hx hb dX5_readSaying_49 ?_
  refine g_top (y := nI (18 + n)) (nI_add 18 n) ?_
  refine lv_aload_n hx hb dX5_readSaying_50 rfl (lv_at hl 1 rfl) ?_
  refine lv_iconst (v := 0) hx hb dX5_readSaying_51 (by decide) ?_
  refine lv_iconst (v := 1) hx hb dX5_readSaying_52 (by decide) ?_
  refine g_wrV (As := [.int 0, .int 1]) (rest := [.int (nI (18 + n)), .ref (a 7)]) (nL := 2) hx hb hml hown hts (c_X5_number lz G a t4 0 1 okt4) gX5_readSaying_X5_number rfl h_X5_number ⟨Nat.le_of_ble_eq_true rfl, Nat.le_of_ble_eq_true rfl⟩ hK hP hD hS [0, 1, 2, 3, 4, 5, 6, 7] rfl rfl rfl (ws1 := wMd a G.2.1 G.2.2.1 (dNum t4 0 1)) rfl [a 0, a 1, a 2, a 3, a 4, a 5, a 6, a 7] rfl rfl (ci := 5) rfl rfl rfl rfl hl.1 rfl (Nat.le_of_ble_eq_true rfl) ⟨Nat.le_refl _, Nat.le_refl _⟩ dX5_readSaying_53 (fun H locs hP hD hS => ?_)
  generalize ht5 : dNum t4 0 1 = t5 at hP hD ⊢
  have okt5 : dOK t5 := by
    rw [← ht5]
    exact dOK_num okt4
  obtain ⟨w5, hw5⟩ : ∃ w : Int32, w = dNumR t4 0 1 := ⟨_, rfl⟩
  refine g_top (y := w5) hw5.symm ?_
  have hP : va_P G.1 vwCl (wMd a G.2.1 G.2.2.1 t5) H := hP
  have hD : va_D A (wMd a G.2.1 G.2.2.1 t5) := hD
  refine g_iast hx hb hK.1 hP hD hS 7 0 rfl rfl (i := (18 + n)) (by omega) (by decide) dX5_readSaying_56 (fun H locs hP hD hS => ?_)
  obtain ⟨t6, ht6⟩ : ∃ u_ : MdS, u_ = mRd t5 (upd t5.read (18 + n) w5) := ⟨_, rfl⟩
  have hP : va_P G.1 vwCl (wMd a G.2.1 G.2.2.1 t6) H := by
    rw [ht6]
    exact hP
  have hD : va_D A (wMd a G.2.1 G.2.2.1 t6) := by
    rw [ht6]
    exact hD
  have okt6 : dOK t6 := by
    rw [ht6]
    exact okt5
  refine lv_aload_n hx hb dX5_readSaying_57 rfl (lv_at hl 1 rfl) ?_
  refine va_get (D := G.1) (ci := 5) (v := .ref (a 7)) (C := RX5) (T := TX5) (N := 21) hx hb hts i_X5_readSaying_X5 hown hK.1 hP 0 rfl rfl 20 (by decide) f36 (fun _ h9 => h9) rfl dX5_readSaying_58 ?_
  refine lv_bipush (v := 26) hx hb dX5_readSaying_61 (by decide) ?_
  refine lv_iload_n hx hb dX5_readSaying_63 rfl (lv_at hl 0 rfl) ?_
  refine lv_iadd hx hb dX5_readSaying_64 ?_
  refine g_top (y := nI (26 + n)) (nI_add 26 n) ?_
  refine lv_aload_n hx hb dX5_readSaying_65 rfl (lv_at hl 1 rfl) ?_
  refine lv_iconst (v := 1) hx hb dX5_readSaying_66 (by decide) ?_
  refine lv_bipush (v := 30) hx hb dX5_readSaying_67 (by decide) ?_
  refine g_wrV (As := [.int 1, .int 30]) (rest := [.int (nI (26 + n)), .ref (a 7)]) (nL := 2) hx hb hml hown hts (c_X5_number lz G a t6 1 30 okt6) gX5_readSaying_X5_number rfl h_X5_number ⟨Nat.le_of_ble_eq_true rfl, Nat.le_of_ble_eq_true rfl⟩ hK hP hD hS [0, 1, 2, 3, 4, 5, 6, 7] rfl rfl rfl (ws1 := wMd a G.2.1 G.2.2.1 (dNum t6 1 30)) rfl [a 0, a 1, a 2, a 3, a 4, a 5, a 6, a 7] rfl rfl (ci := 5) rfl rfl rfl rfl hl.1 rfl (Nat.le_of_ble_eq_true rfl) ⟨Nat.le_refl _, Nat.le_refl _⟩ dX5_readSaying_69 (fun H locs hP hD hS => ?_)
  generalize ht7 : dNum t6 1 30 = t7 at hP hD ⊢
  have okt7 : dOK t7 := by
    rw [← ht7]
    exact dOK_num okt6
  obtain ⟨w7, hw7⟩ : ∃ w : Int32, w = dNumR t6 1 30 := ⟨_, rfl⟩
  refine g_top (y := w7) hw7.symm ?_
  have hP : va_P G.1 vwCl (wMd a G.2.1 G.2.2.1 t7) H := hP
  have hD : va_D A (wMd a G.2.1 G.2.2.1 t7) := hD
  refine g_iast hx hb hK.1 hP hD hS 7 0 rfl rfl (i := (26 + n)) (by omega) (by decide) dX5_readSaying_72 (fun H locs hP hD hS => ?_)
  obtain ⟨t8, ht8⟩ : ∃ u_ : MdS, u_ = mRd t7 (upd t7.read (26 + n) w7) := ⟨_, rfl⟩
  have hP : va_P G.1 vwCl (wMd a G.2.1 G.2.2.1 t8) H := by
    rw [ht8]
    exact hP
  have hD : va_D A (wMd a G.2.1 G.2.2.1 t8) := by
    rw [ht8]
    exact hD
  have okt8 : dOK t8 := by
    rw [ht8]
    exact okt7
  refine lv_aload_n hx hb dX5_readSaying_73 rfl (lv_at hl 1 rfl) ?_
  refine va_get (D := G.1) (ci := 5) (v := .ref (a 7)) (C := RX5) (T := TX5) (N := 21) hx hb hts i_X5_readSaying_X5 hown hK.1 hP 0 rfl rfl 20 (by decide) f36 (fun _ h9 => h9) rfl dX5_readSaying_74 ?_
  refine lv_iconst (v := 1) hx hb dX5_readSaying_77 (by decide) ?_
  refine g_top (y := nI 1) (rfl) ?_
  refine lv_dup2_11 hx hb dX5_readSaying_78 rfl rfl ?_
  refine g_iald hx hb hK.1 hP 7 0 rfl rfl (i := 1) (by omega) (by decide) dX5_readSaying_79 ?_
  refine lv_iconst (v := 1) hx hb dX5_readSaying_80 (by decide) ?_
  refine lv_iadd hx hb dX5_readSaying_81 ?_
  obtain ⟨w9, hw9⟩ : ∃ w : Int32, w = (t8.read 1) + 1 := ⟨_, rfl⟩
  refine g_top (y := w9) hw9.symm ?_
  refine g_iast hx hb hK.1 hP hD hS 7 0 rfl rfl (i := 1) (by omega) (by decide) dX5_readSaying_82 (fun H locs hP hD hS => ?_)
  obtain ⟨t10, ht10⟩ : ∃ u_ : MdS, u_ = mRd t8 (upd t8.read 1 w9) := ⟨_, rfl⟩
  have hP : va_P G.1 vwCl (wMd a G.2.1 G.2.2.1 t10) H := by
    rw [ht10]
    exact hP
  have hD : va_D A (wMd a G.2.1 G.2.2.1 t10) := by
    rw [ht10]
    exact hD
  have okt10 : dOK t10 := by
    rw [ht10]
    exact okt8
  refine lv_aload_n hx hb dX5_readSaying_83 rfl (lv_at hl 1 rfl) ?_
  refine g_wrV (As := []) (rest := []) (nL := 2) hx hb hml hown hts (c_X5_ends lz G a t10 okt10) gX5_readSaying_X5_ends rfl h_X5_ends ⟨Nat.le_of_ble_eq_true rfl, Nat.le_of_ble_eq_true rfl⟩ hK hP hD hS [0, 1, 2, 3, 4, 5, 6, 7] rfl rfl rfl (ws1 := wMd a G.2.1 G.2.2.1 (dEnd t10)) rfl [a 0, a 1, a 2, a 3, a 4, a 5, a 6, a 7] rfl rfl (ci := 5) rfl rfl rfl rfl hl.1 rfl (Nat.le_of_ble_eq_true rfl) ⟨Nat.le_refl _, Nat.le_refl _⟩ dX5_readSaying_84 (fun H locs hP hD hS => ?_)
  generalize ht11 : dEnd t10 = t11 at hP hD ⊢
  have okt11 : dOK t11 := by
    rw [← ht11]
    exact dOK_end okt10
  have hP : va_P G.1 vwCl (wMd a G.2.1 G.2.2.1 t11) H := hP
  have hD : va_D A (wMd a G.2.1 G.2.2.1 t11) := hD
  have e_0 : dNS m (2 + n) 0 (m.rp - 1) = t2 := by
    rw [dNS, ht1, ← hw1, ← ht2]
  have e_1 : dNS t2 (10 + n) 1 6 = t4 := by
    rw [dNS, ht3, ← hw3, ← ht4]
  have e_2 : dNS t4 (18 + n) 0 1 = t6 := by
    rw [dNS, ht5, ← hw5, ← ht6]
  have e_3 : dNS t6 (26 + n) 1 30 = t8 := by
    rw [dNS, ht7, ← hw7, ← ht8]
  have hfin : dSay m n = t11 := by
    rw [dSay_def, dSayD, e_0, e_1, e_2, e_3, dS5, ← hw9, ← ht10, ht11]
  have hP : va_P G.1 vwCl (wMd a G.2.1 G.2.2.1 (dSay m n)) H := by
    rw [hfin]
    exact hP
  exact g_wv hx hb hr hlocks hAe hP hS dX5_readSaying_87

theorem i_X5_readItem_X5 : ∀ w ∈ wsX50, w ∈ wsX5_readItem := by decide +kernel
theorem h_X5_readItem : yX5_readItem.cls = RX5 ∧ yX5_readItem.cls ≠ "java/lang/invoke/MethodHandle" ∧ yX5_readItem.cls ≠ "java/lang/invoke/VarHandle" ∧ (parseMethodDescriptor yX5_readItem.desc).map (fun d => d.parameters.length) = some 0 := by decide +kernel
set_option maxHeartbeats 4000000 in
set_option maxRecDepth 100000 in
theorem c_X5_readItem (lz : Launch) (G : gG) (a : Nat → Nat) (m : MdS) (n : Nat) (hrd : m.read 1 = nI n) (hn : n ≤ 8) (hok : dOK m) (hlt : m.pos < m.len) : gWr lz yX5_readItem wsX5_readItem 4 G [.ref (a 0)] (wMd a G.2.1 G.2.2.1 m) (wMd a G.2.1 G.2.2.1 (dItm m)) none := by
  refine g_wr (by decide) rfl (Nat.le_of_ble_eq_true rfl) ?_
  intro pz ez sz mz bz tz cz hx hb hr hml hown hts hlocks hK A hAe hP hD hS ls hl
  have hl : lv_has ls 4 [(0, .ref (a 0))] := hl
  have f36 := hts (.fieldLink RX5 36 "WhisperRingModel" "read" "[I") (by decide +kernel)
  have f43 := hts (.fieldLink RX5 43 "WhisperRingModel" "length" "I") (by decide +kernel)
  have f46 := hts (.fieldLink RX5 46 "WhisperRingModel" "at" "I") (by decide +kernel)
  have f53 := hts (.fieldLink RX5 53 "WhisperRingModel" "wrong" "I") (by decide +kernel)
  have f59 := hts (.fieldLink RX5 59 "WhisperRingModel" "items" "I") (by decide +kernel)
  have f62 := hts (.fieldLink RX5 62 "WhisperRingModel" "readPlaces" "I") (by decide +kernel)
  have f7 := hts (.fieldLink RX5 7 "WhisperRingModel" "text" "[I") (by decide +kernel)
  have f72 := hts (.fieldLink RX5 72 "WhisperRingModel" "saidLoss" "Z") (by decide +kernel)
  have f76 := hts (.fieldLink RX5 76 "WhisperRingModel" "readLoss" "I") (by decide +kernel)
  have f79 := hts (.fieldLink RX5 79 "WhisperRingModel" "readNiches" "I") (by decide +kernel)
  obtain ⟨Z, x, hZ, hxZ, hz, hp⟩ := id hok
  have hxl : x < Z := gl_ll hp hz (by omega) (by omega) hlt
  skip
  refine lv_aload_n hx hb dX5_readItem_0 rfl (lv_at hl 0 rfl) ?_
  refine g_rdV (As := []) (rest := []) (nL := 4) hx hb hml hown hts (c_X5_here lz G a m hok) gX5_readItem_X5_here rfl h_X5_here ⟨Nat.le_of_ble_eq_true rfl, Nat.le_of_ble_eq_true rfl⟩ hK hP (ci := 5) rfl rfl rfl rfl hl.1 rfl (Nat.le_of_ble_eq_true rfl) ⟨Nat.le_refl _, Nat.le_refl _⟩ dX5_readItem_1 ?_
  obtain ⟨c0, hc0⟩ : ∃ c : Int32, c = dHere m := ⟨_, rfl⟩
  refine g_top (y := c0) hc0.symm ?_
  refine lv_istore_n (lv' := [(1, .int c0), (0, .ref (a 0))]) hx hb dX5_readItem_4 rfl hl (by decide) rfl (fun ls hl => ?_)
  have cut_100 : ∀ (al : Bool) (may : Bool), (dAlone m = al) → (dMay m = may) → ∀ ls : Array Slot, lv_has ls 4 [(0, .ref (a 0)), (1, .int c0), (2, .int (bI al)), (3, .int (bI may))] → W pz lz ez (gRm 4) sz mz ([.ref (a 0)] : List Value).toArray bz tz cz sz.heap [] 0 0 (MQ bz (gQ G (wMd a G.2.1 G.2.2.1 m) (wMd a G.2.1 G.2.2.1 (dItm m)) none) ([.ref (a 0)] : List Value).toArray sz 0 0 (gAd (wMd a G.2.1 G.2.2.1 m))) (F0 mz 100 ls []) := by
    intro al may hal hmay ls hl
    refine lv_iload_n hx hb dX5_readItem_100 rfl (lv_at hl 3 rfl) ?_
    refine lv_if_eq (tgt := 108) hx hb dX5_readItem_101 (by decide) (fun c_1 => ?_) (fun c_1 => ?_)
    · skip
      have c_1 := bI_0 c_1
      refine lv_aload_n hx hb dX5_readItem_108 rfl (lv_at hl 0 rfl) ?_
      refine lv_aload_n hx hb dX5_readItem_109 rfl (lv_at hl 0 rfl) ?_
      refine va_get (D := G.1) (ci := 5) (v := .int m.pos) (C := RX5) (T := TX5) (N := 21) hx hb hts i_X5_readItem_X5 hown hK.1 hP 0 rfl rfl 13 (by decide) f46 (fun _ h9 => h9) rfl dX5_readItem_110 ?_
      obtain ⟨w2, hw2⟩ : ∃ w : Int32, w = m.pos := ⟨_, rfl⟩
      refine g_top (y := w2) hw2.symm ?_
      refine va_put (D := G.1) (ci := 5) (v := .int w2) (ty := .int) (C := RX5) (T := TX5) (N := 21) hx hb hts i_X5_readItem_X5 tyX5 tyX5_ok nmX5 hown hK.1 hP hD hS 0 rfl rfl 14 (by decide) f53 (fun _ h9 => h9) rfl (by decide +kernel) rfl rfl (Nat.le_of_ble_eq_true rfl) dX5_readItem_113 (fun H locs hP hD hS => ?_)
      obtain ⟨t3, ht3⟩ : ∃ u_ : MdS, u_ = mWr m w2 := ⟨_, rfl⟩
      have hP : va_P G.1 vwCl (wMd a G.2.1 G.2.2.1 t3) H := by
        rw [ht3]
        exact hP
      have hD : va_D A (wMd a G.2.1 G.2.2.1 t3) := by
        rw [ht3]
        exact hD
      have okt3 : dOK t3 := by
        rw [ht3]
        exact hok
      have hfin : dItm m = t3 := by
        rw [dItm_def, dItmD, if_neg (by rw [hmay, c_1, Bool.false_and]; decide), ht3, hw2]
      have hP : va_P G.1 vwCl (wMd a G.2.1 G.2.2.1 (dItm m)) H := by
        rw [hfin]
        exact hP
      exact g_wv hx hb hr hlocks hAe hP hS dX5_readItem_116
    · skip
      have c_1 := bI_1 c_1
      refine lv_iload_n hx hb dX5_readItem_104 rfl (lv_at hl 2 rfl) ?_
      refine lv_if_ne (tgt := 117) hx hb dX5_readItem_105 (by decide) (fun c_4 => ?_) (fun c_4 => ?_)
      · skip
        have c_4 := bI_1 c_4
        refine lv_aload_n hx hb dX5_readItem_117 rfl (lv_at hl 0 rfl) ?_
        refine lv_dup hx hb dX5_readItem_118 rfl ?_
        refine va_get (D := G.1) (ci := 5) (v := .int m.pos) (C := RX5) (T := TX5) (N := 21) hx hb hts i_X5_readItem_X5 hown hK.1 hP 0 rfl rfl 13 (by decide) f46 (fun _ h9 => h9) rfl dX5_readItem_119 ?_
        refine lv_iconst (v := 1) hx hb dX5_readItem_122 (by decide) ?_
        refine lv_iadd hx hb dX5_readItem_123 ?_
        obtain ⟨w5, hw5⟩ : ∃ w : Int32, w = m.pos + 1 := ⟨_, rfl⟩
        refine g_top (y := w5) hw5.symm ?_
        refine va_put (D := G.1) (ci := 5) (v := .int w5) (ty := .int) (C := RX5) (T := TX5) (N := 21) hx hb hts i_X5_readItem_X5 tyX5 tyX5_ok nmX5 hown hK.1 hP hD hS 0 rfl rfl 13 (by decide) f46 (fun _ h9 => h9) rfl (by decide +kernel) rfl rfl (Nat.le_of_ble_eq_true rfl) dX5_readItem_124 (fun H locs hP hD hS => ?_)
        obtain ⟨t6, ht6⟩ : ∃ u_ : MdS, u_ = mPos m w5 := ⟨_, rfl⟩
        have hP : va_P G.1 vwCl (wMd a G.2.1 G.2.2.1 t6) H := by
          rw [ht6]
          exact hP
        have hD : va_D A (wMd a G.2.1 G.2.2.1 t6) := by
          rw [ht6]
          exact hD
        have okt6 : dOK t6 := by
          rw [ht6]
          exact dOK_pos hZ hxl hz (by rw [hw5, hp]; exact nI_1 x)
        refine lv_iload_n hx hb dX5_readItem_127 rfl (lv_at hl 1 rfl) ?_
        refine lv_bipush (v := 110) hx hb dX5_readItem_128 (by decide) ?_
        refine lv_icmp_ne (tgt := 151) hx hb dX5_readItem_130 (by decide) (fun c_7 => ?_) (fun c_7 => ?_)
        · skip
          refine lv_iload_n hx hb dX5_readItem_151 rfl (lv_at hl 1 rfl) ?_
          refine lv_bipush (v := 108) hx hb dX5_readItem_152 (by decide) ?_
          refine lv_icmp_ne (tgt := 180) hx hb dX5_readItem_154 (by decide) (fun c_8 => ?_) (fun c_8 => ?_)
          · skip
            refine lv_iload_n hx hb dX5_readItem_180 rfl (lv_at hl 1 rfl) ?_
            refine lv_bipush (v := 104) hx hb dX5_readItem_181 (by decide) ?_
            refine lv_icmp_ne (tgt := 215) hx hb dX5_readItem_183 (by decide) (fun c_9 => ?_) (fun c_9 => ?_)
            · skip
              refine lv_aload_n hx hb dX5_readItem_215 rfl (lv_at hl 0 rfl) ?_
              have hn7 : n < 8 := by
                have hm1 : dMay m = true := by rw [hmay, c_1]
                rw [dMay, ← hc0] at hm1
                simp [c_7, c_8, c_9] at hm1
                have h8 := hm1.2
                rw [hrd] at h8
                exact (nI_ltI (by omega) (by decide)).mp (show nI n < nI 8 from h8)
              refine g_wrV (As := []) (rest := []) (nL := 4) hx hb hml hown hts (c_X5_readSaying lz G a t6 n (by rw [ht6]; exact hrd) hn7 okt6) gX5_readItem_X5_readSaying rfl h_X5_readSaying ⟨Nat.le_of_ble_eq_true rfl, Nat.le_of_ble_eq_true rfl⟩ hK hP hD hS [0, 1, 2, 3, 4, 5, 6, 7] rfl rfl rfl (ws1 := wMd a G.2.1 G.2.2.1 (dSay t6 n)) rfl [a 0, a 1, a 2, a 3, a 4, a 5, a 6, a 7] rfl rfl (ci := 5) rfl rfl rfl rfl hl.1 rfl (Nat.le_of_ble_eq_true rfl) ⟨Nat.le_refl _, Nat.le_refl _⟩ dX5_readItem_216 (fun H locs hP hD hS => ?_)
              generalize ht10 : dSay t6 n = t10 at hP hD ⊢
              have okt10 : dOK t10 := by
                rw [← ht10]
                exact dOK_say hn7 okt6
              have hP : va_P G.1 vwCl (wMd a G.2.1 G.2.2.1 t10) H := hP
              have hD : va_D A (wMd a G.2.1 G.2.2.1 t10) := hD
              have e_in : dIn m = t6 := by
                rw [dIn, ← hw5, ← ht6]
              have hfin : dItm m = t10 := by
                rw [dItm_def, dItmD, if_pos (by rw [hmay, hal, c_1, c_4]; rfl), ← hc0, if_neg c_7, if_neg c_8, if_neg c_9, e_in, hrd, nI_clamp (by omega), ht10]
              have hP : va_P G.1 vwCl (wMd a G.2.1 G.2.2.1 (dItm m)) H := by
                rw [hfin]
                exact hP
              exact g_wv hx hb hr hlocks hAe hP hS dX5_readItem_219
            · skip
              refine lv_aload_n hx hb dX5_readItem_186 rfl (lv_at hl 0 rfl) ?_
              refine lv_dup hx hb dX5_readItem_187 rfl ?_
              refine va_get (D := G.1) (ci := 5) (v := .int t6.rn) (C := RX5) (T := TX5) (N := 21) hx hb hts i_X5_readItem_X5 hown hK.1 hP 0 rfl rfl 19 (by decide) f79 (fun _ h9 => h9) rfl dX5_readItem_188 ?_
              refine lv_iconst (v := 1) hx hb dX5_readItem_191 (by decide) ?_
              refine lv_aload_n hx hb dX5_readItem_192 rfl (lv_at hl 0 rfl) ?_
              refine lv_iconst (v := 0) hx hb dX5_readItem_193 (by decide) ?_
              refine lv_aload_n hx hb dX5_readItem_194 rfl (lv_at hl 0 rfl) ?_
              refine va_get (D := G.1) (ci := 5) (v := .int t6.rp) (C := RX5) (T := TX5) (N := 21) hx hb hts i_X5_readItem_X5 hown hK.1 hP 0 rfl rfl 16 (by decide) f62 (fun _ h9 => h9) rfl dX5_readItem_195 ?_
              refine lv_iconst (v := 1) hx hb dX5_readItem_198 (by decide) ?_
              refine lv_isub hx hb dX5_readItem_199 ?_
              refine g_wrV (As := [.int 0, .int (t6.rp - 1)]) (rest := [.int 1, .int t6.rn, .ref (a 0)]) (nL := 4) hx hb hml hown hts (c_X5_number lz G a t6 0 (t6.rp - 1) okt6) gX5_readItem_X5_number rfl h_X5_number ⟨Nat.le_of_ble_eq_true rfl, Nat.le_of_ble_eq_true rfl⟩ hK hP hD hS [0, 1, 2, 3, 4, 5, 6, 7] rfl rfl rfl (ws1 := wMd a G.2.1 G.2.2.1 (dNum t6 0 (t6.rp - 1))) rfl [a 0, a 1, a 2, a 3, a 4, a 5, a 6, a 7] rfl rfl (ci := 5) rfl rfl rfl rfl hl.1 rfl (Nat.le_of_ble_eq_true rfl) ⟨Nat.le_refl _, Nat.le_refl _⟩ dX5_readItem_200 (fun H locs hP hD hS => ?_)
              generalize ht11 : dNum t6 0 (t6.rp - 1) = t11 at hP hD ⊢
              have okt11 : dOK t11 := by
                rw [← ht11]
                exact dOK_num okt6
              obtain ⟨w11, hw11⟩ : ∃ w : Int32, w = dNumR t6 0 (t6.rp - 1) := ⟨_, rfl⟩
              refine g_top (y := w11) hw11.symm ?_
              have hP : va_P G.1 vwCl (wMd a G.2.1 G.2.2.1 t11) H := hP
              have hD : va_D A (wMd a G.2.1 G.2.2.1 t11) := hD
              refine lv_ishl hx hb dX5_readItem_203 ?_
              refine lv_ior hx hb dX5_readItem_204 ?_
              obtain ⟨w12, hw12⟩ : ∃ w : Int32, w = t6.rn ||| ((1 : Int32) <<< (w11 &&& 31)) := ⟨_, rfl⟩
              refine g_top (y := w12) hw12.symm ?_
              refine va_put (D := G.1) (ci := 5) (v := .int w12) (ty := .int) (C := RX5) (T := TX5) (N := 21) hx hb hts i_X5_readItem_X5 tyX5 tyX5_ok nmX5 hown hK.1 hP hD hS 0 rfl rfl 19 (by decide) f79 (fun _ h9 => h9) rfl (by decide +kernel) rfl rfl (Nat.le_of_ble_eq_true rfl) dX5_readItem_205 (fun H locs hP hD hS => ?_)
              obtain ⟨t13, ht13⟩ : ∃ u_ : MdS, u_ = mRn t11 w12 := ⟨_, rfl⟩
              have hP : va_P G.1 vwCl (wMd a G.2.1 G.2.2.1 t13) H := by
                rw [ht13]
                exact hP
              have hD : va_D A (wMd a G.2.1 G.2.2.1 t13) := by
                rw [ht13]
                exact hD
              have okt13 : dOK t13 := by
                rw [ht13]
                exact okt11
              refine lv_aload_n hx hb dX5_readItem_208 rfl (lv_at hl 0 rfl) ?_
              refine g_wrV (As := []) (rest := []) (nL := 4) hx hb hml hown hts (c_X5_ends lz G a t13 okt13) gX5_readItem_X5_ends rfl h_X5_ends ⟨Nat.le_of_ble_eq_true rfl, Nat.le_of_ble_eq_true rfl⟩ hK hP hD hS [0, 1, 2, 3, 4, 5, 6, 7] rfl rfl rfl (ws1 := wMd a G.2.1 G.2.2.1 (dEnd t13)) rfl [a 0, a 1, a 2, a 3, a 4, a 5, a 6, a 7] rfl rfl (ci := 5) rfl rfl rfl rfl hl.1 rfl (Nat.le_of_ble_eq_true rfl) ⟨Nat.le_refl _, Nat.le_refl _⟩ dX5_readItem_209 (fun H locs hP hD hS => ?_)
              generalize ht14 : dEnd t13 = t14 at hP hD ⊢
              have okt14 : dOK t14 := by
                rw [← ht14]
                exact dOK_end okt13
              have hP : va_P G.1 vwCl (wMd a G.2.1 G.2.2.1 t14) H := hP
              have hD : va_D A (wMd a G.2.1 G.2.2.1 t14) := hD
              refine lv_goto (tgt := 219) hx hb dX5_readItem_212 (by decide) ?_
              have e_in : dIn m = t6 := by
                rw [dIn, ← hw5, ← ht6]
              have hfin : dItm m = t14 := by
                rw [dItm_def, dItmD, if_pos (by rw [hmay, hal, c_1, c_4]; rfl), ← hc0, if_neg c_7, if_neg c_8, if_pos c_9, e_in, ht11, ← hw11, ← hw12, ← ht13, ht14]
              have hP : va_P G.1 vwCl (wMd a G.2.1 G.2.2.1 (dItm m)) H := by
                rw [hfin]
                exact hP
              exact g_wv hx hb hr hlocks hAe hP hS dX5_readItem_219
          · skip
            refine lv_aload_n hx hb dX5_readItem_157 rfl (lv_at hl 0 rfl) ?_
            refine lv_iconst (v := 1) hx hb dX5_readItem_158 (by decide) ?_
            refine va_put (D := G.1) (ci := 5) (v := .int 1) (ty := .boolean) (C := RX5) (T := TX5) (N := 21) hx hb hts i_X5_readItem_X5 tyX5 tyX5_ok nmX5 hown hK.1 hP hD hS 0 rfl rfl 18 (by decide) f72 (fun _ h9 => h9) rfl (by decide +kernel) rfl rfl (Nat.le_of_ble_eq_true rfl) dX5_readItem_159 (fun H locs hP hD hS => ?_)
            obtain ⟨t15, ht15⟩ : ∃ u_ : MdS, u_ = mSl t6 1 := ⟨_, rfl⟩
            have hP : va_P G.1 vwCl (wMd a G.2.1 G.2.2.1 t15) H := by
              rw [ht15]
              exact hP
            have hD : va_D A (wMd a G.2.1 G.2.2.1 t15) := by
              rw [ht15]
              exact hD
            have okt15 : dOK t15 := by
              rw [ht15]
              exact okt6
            refine lv_aload_n hx hb dX5_readItem_162 rfl (lv_at hl 0 rfl) ?_
            refine lv_aload_n hx hb dX5_readItem_163 rfl (lv_at hl 0 rfl) ?_
            refine lv_iconst (v := 1) hx hb dX5_readItem_164 (by decide) ?_
            refine lv_bipush (v := 9) hx hb dX5_readItem_165 (by decide) ?_
            refine g_wrV (As := [.int 1, .int 9]) (rest := [.ref (a 0)]) (nL := 4) hx hb hml hown hts (c_X5_number lz G a t15 1 9 okt15) gX5_readItem_X5_number rfl h_X5_number ⟨Nat.le_of_ble_eq_true rfl, Nat.le_of_ble_eq_true rfl⟩ hK hP hD hS [0, 1, 2, 3, 4, 5, 6, 7] rfl rfl rfl (ws1 := wMd a G.2.1 G.2.2.1 (dNum t15 1 9)) rfl [a 0, a 1, a 2, a 3, a 4, a 5, a 6, a 7] rfl rfl (ci := 5) rfl rfl rfl rfl hl.1 rfl (Nat.le_of_ble_eq_true rfl) ⟨Nat.le_refl _, Nat.le_refl _⟩ dX5_readItem_167 (fun H locs hP hD hS => ?_)
            generalize ht16 : dNum t15 1 9 = t16 at hP hD ⊢
            have okt16 : dOK t16 := by
              rw [← ht16]
              exact dOK_num okt15
            obtain ⟨w16, hw16⟩ : ∃ w : Int32, w = dNumR t15 1 9 := ⟨_, rfl⟩
            refine g_top (y := w16) hw16.symm ?_
            have hP : va_P G.1 vwCl (wMd a G.2.1 G.2.2.1 t16) H := hP
            have hD : va_D A (wMd a G.2.1 G.2.2.1 t16) := hD
            refine va_put (D := G.1) (ci := 5) (v := .int w16) (ty := .int) (C := RX5) (T := TX5) (N := 21) hx hb hts i_X5_readItem_X5 tyX5 tyX5_ok nmX5 hown hK.1 hP hD hS 0 rfl rfl 17 (by decide) f76 (fun _ h9 => h9) rfl (by decide +kernel) rfl rfl (Nat.le_of_ble_eq_true rfl) dX5_readItem_170 (fun H locs hP hD hS => ?_)
            obtain ⟨t17, ht17⟩ : ∃ u_ : MdS, u_ = mRl t16 w16 := ⟨_, rfl⟩
            have hP : va_P G.1 vwCl (wMd a G.2.1 G.2.2.1 t17) H := by
              rw [ht17]
              exact hP
            have hD : va_D A (wMd a G.2.1 G.2.2.1 t17) := by
              rw [ht17]
              exact hD
            have okt17 : dOK t17 := by
              rw [ht17]
              exact okt16
            refine lv_aload_n hx hb dX5_readItem_173 rfl (lv_at hl 0 rfl) ?_
            refine g_wrV (As := []) (rest := []) (nL := 4) hx hb hml hown hts (c_X5_ends lz G a t17 okt17) gX5_readItem_X5_ends rfl h_X5_ends ⟨Nat.le_of_ble_eq_true rfl, Nat.le_of_ble_eq_true rfl⟩ hK hP hD hS [0, 1, 2, 3, 4, 5, 6, 7] rfl rfl rfl (ws1 := wMd a G.2.1 G.2.2.1 (dEnd t17)) rfl [a 0, a 1, a 2, a 3, a 4, a 5, a 6, a 7] rfl rfl (ci := 5) rfl rfl rfl rfl hl.1 rfl (Nat.le_of_ble_eq_true rfl) ⟨Nat.le_refl _, Nat.le_refl _⟩ dX5_readItem_174 (fun H locs hP hD hS => ?_)
            generalize ht18 : dEnd t17 = t18 at hP hD ⊢
            have okt18 : dOK t18 := by
              rw [← ht18]
              exact dOK_end okt17
            have hP : va_P G.1 vwCl (wMd a G.2.1 G.2.2.1 t18) H := hP
            have hD : va_D A (wMd a G.2.1 G.2.2.1 t18) := hD
            refine lv_goto (tgt := 219) hx hb dX5_readItem_177 (by decide) ?_
            have e_in : dIn m = t6 := by
              rw [dIn, ← hw5, ← ht6]
            have hfin : dItm m = t18 := by
              rw [dItm_def, dItmD, if_pos (by rw [hmay, hal, c_1, c_4]; rfl), ← hc0, if_neg c_7, if_pos c_8, e_in, ← ht15, ht16, ← hw16, ← ht17, ht18]
            have hP : va_P G.1 vwCl (wMd a G.2.1 G.2.2.1 (dItm m)) H := by
              rw [hfin]
              exact hP
            exact g_wv hx hb hr hlocks hAe hP hS dX5_readItem_219
        · skip
          refine lv_aload_n hx hb dX5_readItem_133 rfl (lv_at hl 0 rfl) ?_
          refine lv_aload_n hx hb dX5_readItem_134 rfl (lv_at hl 0 rfl) ?_
          refine lv_iconst (v := 4) hx hb dX5_readItem_135 (by decide) ?_
          refine lv_bipush (v := 24) hx hb dX5_readItem_136 (by decide) ?_
          refine g_wrV (As := [.int 4, .int 24]) (rest := [.ref (a 0)]) (nL := 4) hx hb hml hown hts (c_X5_number lz G a t6 4 24 okt6) gX5_readItem_X5_number rfl h_X5_number ⟨Nat.le_of_ble_eq_true rfl, Nat.le_of_ble_eq_true rfl⟩ hK hP hD hS [0, 1, 2, 3, 4, 5, 6, 7] rfl rfl rfl (ws1 := wMd a G.2.1 G.2.2.1 (dNum t6 4 24)) rfl [a 0, a 1, a 2, a 3, a 4, a 5, a 6, a 7] rfl rfl (ci := 5) rfl rfl rfl rfl hl.1 rfl (Nat.le_of_ble_eq_true rfl) ⟨Nat.le_refl _, Nat.le_refl _⟩ dX5_readItem_138 (fun H locs hP hD hS => ?_)
          generalize ht19 : dNum t6 4 24 = t19 at hP hD ⊢
          have okt19 : dOK t19 := by
            rw [← ht19]
            exact dOK_num okt6
          obtain ⟨w19, hw19⟩ : ∃ w : Int32, w = dNumR t6 4 24 := ⟨_, rfl⟩
          refine g_top (y := w19) hw19.symm ?_
          have hP : va_P G.1 vwCl (wMd a G.2.1 G.2.2.1 t19) H := hP
          have hD : va_D A (wMd a G.2.1 G.2.2.1 t19) := hD
          refine va_put (D := G.1) (ci := 5) (v := .int w19) (ty := .int) (C := RX5) (T := TX5) (N := 21) hx hb hts i_X5_readItem_X5 tyX5 tyX5_ok nmX5 hown hK.1 hP hD hS 0 rfl rfl 16 (by decide) f62 (fun _ h9 => h9) rfl (by decide +kernel) rfl rfl (Nat.le_of_ble_eq_true rfl) dX5_readItem_141 (fun H locs hP hD hS => ?_)
          obtain ⟨t20, ht20⟩ : ∃ u_ : MdS, u_ = mRp t19 w19 := ⟨_, rfl⟩
          have hP : va_P G.1 vwCl (wMd a G.2.1 G.2.2.1 t20) H := by
            rw [ht20]
            exact hP
          have hD : va_D A (wMd a G.2.1 G.2.2.1 t20) := by
            rw [ht20]
            exact hD
          have okt20 : dOK t20 := by
            rw [ht20]
            exact okt19
          refine lv_aload_n hx hb dX5_readItem_144 rfl (lv_at hl 0 rfl) ?_
          refine g_wrV (As := []) (rest := []) (nL := 4) hx hb hml hown hts (c_X5_ends lz G a t20 okt20) gX5_readItem_X5_ends rfl h_X5_ends ⟨Nat.le_of_ble_eq_true rfl, Nat.le_of_ble_eq_true rfl⟩ hK hP hD hS [0, 1, 2, 3, 4, 5, 6, 7] rfl rfl rfl (ws1 := wMd a G.2.1 G.2.2.1 (dEnd t20)) rfl [a 0, a 1, a 2, a 3, a 4, a 5, a 6, a 7] rfl rfl (ci := 5) rfl rfl rfl rfl hl.1 rfl (Nat.le_of_ble_eq_true rfl) ⟨Nat.le_refl _, Nat.le_refl _⟩ dX5_readItem_145 (fun H locs hP hD hS => ?_)
          generalize ht21 : dEnd t20 = t21 at hP hD ⊢
          have okt21 : dOK t21 := by
            rw [← ht21]
            exact dOK_end okt20
          have hP : va_P G.1 vwCl (wMd a G.2.1 G.2.2.1 t21) H := hP
          have hD : va_D A (wMd a G.2.1 G.2.2.1 t21) := hD
          refine lv_goto (tgt := 219) hx hb dX5_readItem_148 (by decide) ?_
          have e_in : dIn m = t6 := by
            rw [dIn, ← hw5, ← ht6]
          have hfin : dItm m = t21 := by
            rw [dItm_def, dItmD, if_pos (by rw [hmay, hal, c_1, c_4]; rfl), ← hc0, if_pos c_7, e_in, ht19, ← hw19, ← ht20, ht21]
          have hP : va_P G.1 vwCl (wMd a G.2.1 G.2.2.1 (dItm m)) H := by
            rw [hfin]
            exact hP
          exact g_wv hx hb hr hlocks hAe hP hS dX5_readItem_219
      · skip
        have c_4 := bI_0 c_4
        refine lv_aload_n hx hb dX5_readItem_108 rfl (lv_at hl 0 rfl) ?_
        refine lv_aload_n hx hb dX5_readItem_109 rfl (lv_at hl 0 rfl) ?_
        refine va_get (D := G.1) (ci := 5) (v := .int m.pos) (C := RX5) (T := TX5) (N := 21) hx hb hts i_X5_readItem_X5 hown hK.1 hP 0 rfl rfl 13 (by decide) f46 (fun _ h9 => h9) rfl dX5_readItem_110 ?_
        obtain ⟨w22, hw22⟩ : ∃ w : Int32, w = m.pos := ⟨_, rfl⟩
        refine g_top (y := w22) hw22.symm ?_
        refine va_put (D := G.1) (ci := 5) (v := .int w22) (ty := .int) (C := RX5) (T := TX5) (N := 21) hx hb hts i_X5_readItem_X5 tyX5 tyX5_ok nmX5 hown hK.1 hP hD hS 0 rfl rfl 14 (by decide) f53 (fun _ h9 => h9) rfl (by decide +kernel) rfl rfl (Nat.le_of_ble_eq_true rfl) dX5_readItem_113 (fun H locs hP hD hS => ?_)
        obtain ⟨t23, ht23⟩ : ∃ u_ : MdS, u_ = mWr m w22 := ⟨_, rfl⟩
        have hP : va_P G.1 vwCl (wMd a G.2.1 G.2.2.1 t23) H := by
          rw [ht23]
          exact hP
        have hD : va_D A (wMd a G.2.1 G.2.2.1 t23) := by
          rw [ht23]
          exact hD
        have okt23 : dOK t23 := by
          rw [ht23]
          exact hok
        have hfin : dItm m = t23 := by
          rw [dItm_def, dItmD, if_neg (by rw [hmay, hal, c_1, c_4]; decide), ht23, hw22]
        have hP : va_P G.1 vwCl (wMd a G.2.1 G.2.2.1 (dItm m)) H := by
          rw [hfin]
          exact hP
        exact g_wv hx hb hr hlocks hAe hP hS dX5_readItem_116
  skip
  refine lv_aload_n hx hb dX5_readItem_5 rfl (lv_at hl 1 rfl) ?_
  refine va_get (D := G.1) (ci := 5) (v := .int m.pos) (C := RX5) (T := TX5) (N := 21) hx hb hts i_X5_readItem_X5 hown hK.1 hP 0 rfl rfl 13 (by decide) f46 (fun _ h9 => h9) rfl dX5_readItem_6 ?_
  refine lv_iconst (v := 1) hx hb dX5_readItem_9 (by decide) ?_
  refine lv_iadd hx hb dX5_readItem_10 ?_
  refine g_top (y := nI (x + 1)) ((by rw [hp]; exact nI_1 x)) ?_
  refine lv_aload_n hx hb dX5_readItem_11 rfl (lv_at hl 1 rfl) ?_
  refine va_get (D := G.1) (ci := 5) (v := .int m.len) (C := RX5) (T := TX5) (N := 21) hx hb hts i_X5_readItem_X5 hown hK.1 hP 0 rfl rfl 1 (by decide) f43 (fun _ h9 => h9) rfl dX5_readItem_12 ?_
  refine lv_icmp_ge (tgt := 39) hx hb dX5_readItem_15 (by decide) (fun c_24 => ?_) (fun c_24 => ?_)
  · skip
    have c_24 := gl_le c_24
    refine lv_iconst (v := 1) hx hb dX5_readItem_39 (by decide) ?_
    refine lv_goto (tgt := 44) hx hb dX5_readItem_40 (by decide) ?_
    refine lv_istore_n (lv' := [(2, .int 1), (1, .int c0), (0, .ref (a 0))]) hx hb dX5_readItem_44 rfl hl (by decide) rfl (fun ls hl => ?_)
    refine lv_iload_n hx hb dX5_readItem_45 rfl (lv_at hl 1 rfl) ?_
    refine lv_bipush (v := 110) hx hb dX5_readItem_46 (by decide) ?_
    refine lv_icmp_ne (tgt := 58) hx hb dX5_readItem_48 (by decide) (fun c_25 => ?_) (fun c_25 => ?_)
    · skip
      refine lv_iload_n hx hb dX5_readItem_58 rfl (lv_at hl 1 rfl) ?_
      refine lv_bipush (v := 108) hx hb dX5_readItem_59 (by decide) ?_
      refine lv_icmp_ne (tgt := 71) hx hb dX5_readItem_61 (by decide) (fun c_26 => ?_) (fun c_26 => ?_)
      · skip
        refine lv_iload_n hx hb dX5_readItem_71 rfl (lv_at hl 1 rfl) ?_
        refine lv_bipush (v := 104) hx hb dX5_readItem_72 (by decide) ?_
        refine lv_icmp_eq (tgt := 94) hx hb dX5_readItem_74 (by decide) (fun c_27 => ?_) (fun c_27 => ?_)
        · skip
          refine lv_iconst (v := 1) hx hb dX5_readItem_94 (by decide) ?_
          refine lv_goto (tgt := 99) hx hb dX5_readItem_95 (by decide) ?_
          refine lv_istore_n (lv' := [(3, .int 1), (2, .int 1), (1, .int c0), (0, .ref (a 0))]) hx hb dX5_readItem_99 rfl hl (by decide) rfl (fun ls hl => ?_)
          exact cut_100 true true (by rw [dAlone, hp, nI_1 x, if_neg c_24]) (by rw [dMay, ← hc0]; simp [c_25, c_26, c_27]) ls (lv_sub hl [3, 2, 1, 0] rfl)
        · skip
          refine lv_iload_n hx hb dX5_readItem_77 rfl (lv_at hl 1 rfl) ?_
          refine lv_bipush (v := 115) hx hb dX5_readItem_78 (by decide) ?_
          refine lv_icmp_ne (tgt := 98) hx hb dX5_readItem_80 (by decide) (fun c_28 => ?_) (fun c_28 => ?_)
          · skip
            refine lv_iconst (v := 0) hx hb dX5_readItem_98 (by decide) ?_
            refine lv_istore_n (lv' := [(3, .int 0), (2, .int 1), (1, .int c0), (0, .ref (a 0))]) hx hb dX5_readItem_99 rfl hl (by decide) rfl (fun ls hl => ?_)
            exact cut_100 true false (by rw [dAlone, hp, nI_1 x, if_neg c_24]) (by rw [dMay, ← hc0]; simp [c_25, c_26, c_27, c_28]) ls (lv_sub hl [3, 2, 1, 0] rfl)
          · skip
            refine lv_aload_n hx hb dX5_readItem_83 rfl (lv_at hl 2 rfl) ?_
            refine va_get (D := G.1) (ci := 5) (v := .ref (a 7)) (C := RX5) (T := TX5) (N := 21) hx hb hts i_X5_readItem_X5 hown hK.1 hP 0 rfl rfl 20 (by decide) f36 (fun _ h9 => h9) rfl dX5_readItem_84 ?_
            refine lv_iconst (v := 1) hx hb dX5_readItem_87 (by decide) ?_
            refine g_top (y := nI 1) rfl ?_
            refine g_iald hx hb hK.1 hP 7 0 rfl rfl (i := 1) (by omega) (by decide) dX5_readItem_88 ?_
            refine lv_bipush (v := 8) hx hb dX5_readItem_89 (by decide) ?_
            refine lv_icmp_ge (tgt := 98) hx hb dX5_readItem_91 (by decide) (fun c_29 => ?_) (fun c_29 => ?_)
            · skip
              have c_29 := gl_le c_29
              refine lv_iconst (v := 0) hx hb dX5_readItem_98 (by decide) ?_
              refine lv_istore_n (lv' := [(3, .int 0), (2, .int 1), (1, .int c0), (0, .ref (a 0))]) hx hb dX5_readItem_99 rfl hl (by decide) rfl (fun ls hl => ?_)
              exact cut_100 true false (by rw [dAlone, hp, nI_1 x, if_neg c_24]) (by rw [dMay, ← hc0]; simp [c_25, c_26, c_27, c_28, c_29]) ls (lv_sub hl [3, 2, 1, 0] rfl)
            · skip
              have c_29 := gl_nle c_29
              refine lv_iconst (v := 1) hx hb dX5_readItem_94 (by decide) ?_
              refine lv_goto (tgt := 99) hx hb dX5_readItem_95 (by decide) ?_
              refine lv_istore_n (lv' := [(3, .int 1), (2, .int 1), (1, .int c0), (0, .ref (a 0))]) hx hb dX5_readItem_99 rfl hl (by decide) rfl (fun ls hl => ?_)
              exact cut_100 true true (by rw [dAlone, hp, nI_1 x, if_neg c_24]) (by rw [dMay, ← hc0]; simp [c_25, c_26, c_27, c_28, c_29]) ls (lv_sub hl [3, 2, 1, 0] rfl)
      · skip
        refine lv_aload_n hx hb dX5_readItem_64 rfl (lv_at hl 2 rfl) ?_
        refine va_get (D := G.1) (ci := 5) (v := .int m.sl) (C := RX5) (T := TX5) (N := 21) hx hb hts i_X5_readItem_X5 hown hK.1 hP 0 rfl rfl 18 (by decide) f72 (fun _ h9 => h9) rfl dX5_readItem_65 ?_
        refine lv_if_eq (tgt := 94) hx hb dX5_readItem_68 (by decide) (fun c_30 => ?_) (fun c_30 => ?_)
        · skip
          refine lv_iconst (v := 1) hx hb dX5_readItem_94 (by decide) ?_
          refine lv_goto (tgt := 99) hx hb dX5_readItem_95 (by decide) ?_
          refine lv_istore_n (lv' := [(3, .int 1), (2, .int 1), (1, .int c0), (0, .ref (a 0))]) hx hb dX5_readItem_99 rfl hl (by decide) rfl (fun ls hl => ?_)
          exact cut_100 true true (by rw [dAlone, hp, nI_1 x, if_neg c_24]) (by rw [dMay, ← hc0]; simp [c_25, c_26, c_30]) ls (lv_sub hl [3, 2, 1, 0] rfl)
        · skip
          refine lv_iload_n hx hb dX5_readItem_71 rfl (lv_at hl 1 rfl) ?_
          refine lv_bipush (v := 104) hx hb dX5_readItem_72 (by decide) ?_
          refine lv_icmp_eq (tgt := 94) hx hb dX5_readItem_74 (by decide) (fun c_31 => absurd (c_26.symm.trans c_31) (by decide)) (fun c_31 => ?_)
          refine lv_iload_n hx hb dX5_readItem_77 rfl (lv_at hl 1 rfl) ?_
          refine lv_bipush (v := 115) hx hb dX5_readItem_78 (by decide) ?_
          refine lv_icmp_ne (tgt := 98) hx hb dX5_readItem_80 (by decide) (fun c_32 => ?_) (fun c_32 => absurd (c_26.symm.trans c_32) (by decide))
          refine lv_iconst (v := 0) hx hb dX5_readItem_98 (by decide) ?_
          refine lv_istore_n (lv' := [(3, .int 0), (2, .int 1), (1, .int c0), (0, .ref (a 0))]) hx hb dX5_readItem_99 rfl hl (by decide) rfl (fun ls hl => ?_)
          exact cut_100 true false (by rw [dAlone, hp, nI_1 x, if_neg c_24]) (by rw [dMay, ← hc0]; simp [c_25, c_26, c_30]) ls (lv_sub hl [3, 2, 1, 0] rfl)
    · skip
      refine lv_aload_n hx hb dX5_readItem_51 rfl (lv_at hl 2 rfl) ?_
      refine va_get (D := G.1) (ci := 5) (v := .int m.items) (C := RX5) (T := TX5) (N := 21) hx hb hts i_X5_readItem_X5 hown hK.1 hP 0 rfl rfl 15 (by decide) f59 (fun _ h9 => h9) rfl dX5_readItem_52 ?_
      refine lv_if_eq (tgt := 94) hx hb dX5_readItem_55 (by decide) (fun c_33 => ?_) (fun c_33 => ?_)
      · skip
        refine lv_iconst (v := 1) hx hb dX5_readItem_94 (by decide) ?_
        refine lv_goto (tgt := 99) hx hb dX5_readItem_95 (by decide) ?_
        refine lv_istore_n (lv' := [(3, .int 1), (2, .int 1), (1, .int c0), (0, .ref (a 0))]) hx hb dX5_readItem_99 rfl hl (by decide) rfl (fun ls hl => ?_)
        exact cut_100 true true (by rw [dAlone, hp, nI_1 x, if_neg c_24]) (by rw [dMay, ← hc0]; simp [c_25, c_33]) ls (lv_sub hl [3, 2, 1, 0] rfl)
      · skip
        refine lv_iload_n hx hb dX5_readItem_58 rfl (lv_at hl 1 rfl) ?_
        refine lv_bipush (v := 108) hx hb dX5_readItem_59 (by decide) ?_
        refine lv_icmp_ne (tgt := 71) hx hb dX5_readItem_61 (by decide) (fun c_34 => ?_) (fun c_34 => absurd (c_25.symm.trans c_34) (by decide))
        refine lv_iload_n hx hb dX5_readItem_71 rfl (lv_at hl 1 rfl) ?_
        refine lv_bipush (v := 104) hx hb dX5_readItem_72 (by decide) ?_
        refine lv_icmp_eq (tgt := 94) hx hb dX5_readItem_74 (by decide) (fun c_35 => absurd (c_25.symm.trans c_35) (by decide)) (fun c_35 => ?_)
        refine lv_iload_n hx hb dX5_readItem_77 rfl (lv_at hl 1 rfl) ?_
        refine lv_bipush (v := 115) hx hb dX5_readItem_78 (by decide) ?_
        refine lv_icmp_ne (tgt := 98) hx hb dX5_readItem_80 (by decide) (fun c_36 => ?_) (fun c_36 => absurd (c_25.symm.trans c_36) (by decide))
        refine lv_iconst (v := 0) hx hb dX5_readItem_98 (by decide) ?_
        refine lv_istore_n (lv' := [(3, .int 0), (2, .int 1), (1, .int c0), (0, .ref (a 0))]) hx hb dX5_readItem_99 rfl hl (by decide) rfl (fun ls hl => ?_)
        exact cut_100 true false (by rw [dAlone, hp, nI_1 x, if_neg c_24]) (by rw [dMay, ← hc0]; simp [c_25, c_33]) ls (lv_sub hl [3, 2, 1, 0] rfl)
  · skip
    have c_24 := gl_nle c_24
    have hx1 : x + 1 < Z := gl_in hz (by omega) (by omega) c_24
    refine lv_aload_n hx hb dX5_readItem_18 rfl (lv_at hl 1 rfl) ?_
    refine va_get (D := G.1) (ci := 5) (v := .ref (a 1)) (C := RX5) (T := TX5) (N := 21) hx hb hts i_X5_readItem_X5 hown hK.1 hP 0 rfl rfl 0 (by decide) f7 (fun _ h9 => h9) rfl dX5_readItem_19 ?_
    refine lv_aload_n hx hb dX5_readItem_22 rfl (lv_at hl 1 rfl) ?_
    refine va_get (D := G.1) (ci := 5) (v := .int m.pos) (C := RX5) (T := TX5) (N := 21) hx hb hts i_X5_readItem_X5 hown hK.1 hP 0 rfl rfl 13 (by decide) f46 (fun _ h9 => h9) rfl dX5_readItem_23 ?_
    refine lv_iconst (v := 1) hx hb dX5_readItem_26 (by decide) ?_
    refine lv_iadd hx hb dX5_readItem_27 ?_
    refine g_top (y := nI (x + 1)) ((by rw [hp]; exact nI_1 x)) ?_
    refine g_iald hx hb hK.1 hP 1 0 rfl rfl (i := (x + 1)) (by omega) (by decide) dX5_readItem_28 ?_
    refine lv_bipush (v := 97) hx hb dX5_readItem_29 (by decide) ?_
    refine lv_bipush (v := 122) hx hb dX5_readItem_31 (by decide) ?_
    refine g_rdS (As := [.int (m.text (x + 1)), .int 97, .int 122]) (rest := []) (nL := 4) hx hb hml hown hts (c_X5_in lz G (m.text (x + 1)) 97 122) gX5_readItem_X5_in rfl h_X5_in ⟨Nat.le_of_ble_eq_true rfl, Nat.le_of_ble_eq_true rfl⟩ hK gP_nil rfl hl.1 rfl (Nat.le_of_ble_eq_true rfl) ⟨Nat.le_refl _, Nat.le_refl _⟩ dX5_readItem_33 ?_
    refine lv_if_ne (tgt := 43) hx hb dX5_readItem_36 (by decide) (fun c_37 => ?_) (fun c_37 => ?_)
    · skip
      have c_37 := bI_1 c_37
      refine lv_iconst (v := 0) hx hb dX5_readItem_43 (by decide) ?_
      refine lv_istore_n (lv' := [(2, .int 0), (1, .int c0), (0, .ref (a 0))]) hx hb dX5_readItem_44 rfl hl (by decide) rfl (fun ls hl => ?_)
      refine lv_iload_n hx hb dX5_readItem_45 rfl (lv_at hl 1 rfl) ?_
      refine lv_bipush (v := 110) hx hb dX5_readItem_46 (by decide) ?_
      refine lv_icmp_ne (tgt := 58) hx hb dX5_readItem_48 (by decide) (fun c_38 => ?_) (fun c_38 => ?_)
      · skip
        refine lv_iload_n hx hb dX5_readItem_58 rfl (lv_at hl 1 rfl) ?_
        refine lv_bipush (v := 108) hx hb dX5_readItem_59 (by decide) ?_
        refine lv_icmp_ne (tgt := 71) hx hb dX5_readItem_61 (by decide) (fun c_39 => ?_) (fun c_39 => ?_)
        · skip
          refine lv_iload_n hx hb dX5_readItem_71 rfl (lv_at hl 1 rfl) ?_
          refine lv_bipush (v := 104) hx hb dX5_readItem_72 (by decide) ?_
          refine lv_icmp_eq (tgt := 94) hx hb dX5_readItem_74 (by decide) (fun c_40 => ?_) (fun c_40 => ?_)
          · skip
            refine lv_iconst (v := 1) hx hb dX5_readItem_94 (by decide) ?_
            refine lv_goto (tgt := 99) hx hb dX5_readItem_95 (by decide) ?_
            refine lv_istore_n (lv' := [(3, .int 1), (2, .int 0), (1, .int c0), (0, .ref (a 0))]) hx hb dX5_readItem_99 rfl hl (by decide) rfl (fun ls hl => ?_)
            exact cut_100 false true (by rw [dAlone, hp, nI_1 x, if_pos c_24, nI_clamp (by omega), c_37]; rfl) (by rw [dMay, ← hc0]; simp [c_38, c_39, c_40]) ls (lv_sub hl [3, 2, 1, 0] rfl)
          · skip
            refine lv_iload_n hx hb dX5_readItem_77 rfl (lv_at hl 1 rfl) ?_
            refine lv_bipush (v := 115) hx hb dX5_readItem_78 (by decide) ?_
            refine lv_icmp_ne (tgt := 98) hx hb dX5_readItem_80 (by decide) (fun c_41 => ?_) (fun c_41 => ?_)
            · skip
              refine lv_iconst (v := 0) hx hb dX5_readItem_98 (by decide) ?_
              refine lv_istore_n (lv' := [(3, .int 0), (2, .int 0), (1, .int c0), (0, .ref (a 0))]) hx hb dX5_readItem_99 rfl hl (by decide) rfl (fun ls hl => ?_)
              exact cut_100 false false (by rw [dAlone, hp, nI_1 x, if_pos c_24, nI_clamp (by omega), c_37]; rfl) (by rw [dMay, ← hc0]; simp [c_38, c_39, c_40, c_41]) ls (lv_sub hl [3, 2, 1, 0] rfl)
            · skip
              refine lv_aload_n hx hb dX5_readItem_83 rfl (lv_at hl 2 rfl) ?_
              refine va_get (D := G.1) (ci := 5) (v := .ref (a 7)) (C := RX5) (T := TX5) (N := 21) hx hb hts i_X5_readItem_X5 hown hK.1 hP 0 rfl rfl 20 (by decide) f36 (fun _ h9 => h9) rfl dX5_readItem_84 ?_
              refine lv_iconst (v := 1) hx hb dX5_readItem_87 (by decide) ?_
              refine g_top (y := nI 1) rfl ?_
              refine g_iald hx hb hK.1 hP 7 0 rfl rfl (i := 1) (by omega) (by decide) dX5_readItem_88 ?_
              refine lv_bipush (v := 8) hx hb dX5_readItem_89 (by decide) ?_
              refine lv_icmp_ge (tgt := 98) hx hb dX5_readItem_91 (by decide) (fun c_42 => ?_) (fun c_42 => ?_)
              · skip
                have c_42 := gl_le c_42
                refine lv_iconst (v := 0) hx hb dX5_readItem_98 (by decide) ?_
                refine lv_istore_n (lv' := [(3, .int 0), (2, .int 0), (1, .int c0), (0, .ref (a 0))]) hx hb dX5_readItem_99 rfl hl (by decide) rfl (fun ls hl => ?_)
                exact cut_100 false false (by rw [dAlone, hp, nI_1 x, if_pos c_24, nI_clamp (by omega), c_37]; rfl) (by rw [dMay, ← hc0]; simp [c_38, c_39, c_40, c_41, c_42]) ls (lv_sub hl [3, 2, 1, 0] rfl)
              · skip
                have c_42 := gl_nle c_42
                refine lv_iconst (v := 1) hx hb dX5_readItem_94 (by decide) ?_
                refine lv_goto (tgt := 99) hx hb dX5_readItem_95 (by decide) ?_
                refine lv_istore_n (lv' := [(3, .int 1), (2, .int 0), (1, .int c0), (0, .ref (a 0))]) hx hb dX5_readItem_99 rfl hl (by decide) rfl (fun ls hl => ?_)
                exact cut_100 false true (by rw [dAlone, hp, nI_1 x, if_pos c_24, nI_clamp (by omega), c_37]; rfl) (by rw [dMay, ← hc0]; simp [c_38, c_39, c_40, c_41, c_42]) ls (lv_sub hl [3, 2, 1, 0] rfl)
        · skip
          refine lv_aload_n hx hb dX5_readItem_64 rfl (lv_at hl 2 rfl) ?_
          refine va_get (D := G.1) (ci := 5) (v := .int m.sl) (C := RX5) (T := TX5) (N := 21) hx hb hts i_X5_readItem_X5 hown hK.1 hP 0 rfl rfl 18 (by decide) f72 (fun _ h9 => h9) rfl dX5_readItem_65 ?_
          refine lv_if_eq (tgt := 94) hx hb dX5_readItem_68 (by decide) (fun c_43 => ?_) (fun c_43 => ?_)
          · skip
            refine lv_iconst (v := 1) hx hb dX5_readItem_94 (by decide) ?_
            refine lv_goto (tgt := 99) hx hb dX5_readItem_95 (by decide) ?_
            refine lv_istore_n (lv' := [(3, .int 1), (2, .int 0), (1, .int c0), (0, .ref (a 0))]) hx hb dX5_readItem_99 rfl hl (by decide) rfl (fun ls hl => ?_)
            exact cut_100 false true (by rw [dAlone, hp, nI_1 x, if_pos c_24, nI_clamp (by omega), c_37]; rfl) (by rw [dMay, ← hc0]; simp [c_38, c_39, c_43]) ls (lv_sub hl [3, 2, 1, 0] rfl)
          · skip
            refine lv_iload_n hx hb dX5_readItem_71 rfl (lv_at hl 1 rfl) ?_
            refine lv_bipush (v := 104) hx hb dX5_readItem_72 (by decide) ?_
            refine lv_icmp_eq (tgt := 94) hx hb dX5_readItem_74 (by decide) (fun c_44 => absurd (c_39.symm.trans c_44) (by decide)) (fun c_44 => ?_)
            refine lv_iload_n hx hb dX5_readItem_77 rfl (lv_at hl 1 rfl) ?_
            refine lv_bipush (v := 115) hx hb dX5_readItem_78 (by decide) ?_
            refine lv_icmp_ne (tgt := 98) hx hb dX5_readItem_80 (by decide) (fun c_45 => ?_) (fun c_45 => absurd (c_39.symm.trans c_45) (by decide))
            refine lv_iconst (v := 0) hx hb dX5_readItem_98 (by decide) ?_
            refine lv_istore_n (lv' := [(3, .int 0), (2, .int 0), (1, .int c0), (0, .ref (a 0))]) hx hb dX5_readItem_99 rfl hl (by decide) rfl (fun ls hl => ?_)
            exact cut_100 false false (by rw [dAlone, hp, nI_1 x, if_pos c_24, nI_clamp (by omega), c_37]; rfl) (by rw [dMay, ← hc0]; simp [c_38, c_39, c_43]) ls (lv_sub hl [3, 2, 1, 0] rfl)
      · skip
        refine lv_aload_n hx hb dX5_readItem_51 rfl (lv_at hl 2 rfl) ?_
        refine va_get (D := G.1) (ci := 5) (v := .int m.items) (C := RX5) (T := TX5) (N := 21) hx hb hts i_X5_readItem_X5 hown hK.1 hP 0 rfl rfl 15 (by decide) f59 (fun _ h9 => h9) rfl dX5_readItem_52 ?_
        refine lv_if_eq (tgt := 94) hx hb dX5_readItem_55 (by decide) (fun c_46 => ?_) (fun c_46 => ?_)
        · skip
          refine lv_iconst (v := 1) hx hb dX5_readItem_94 (by decide) ?_
          refine lv_goto (tgt := 99) hx hb dX5_readItem_95 (by decide) ?_
          refine lv_istore_n (lv' := [(3, .int 1), (2, .int 0), (1, .int c0), (0, .ref (a 0))]) hx hb dX5_readItem_99 rfl hl (by decide) rfl (fun ls hl => ?_)
          exact cut_100 false true (by rw [dAlone, hp, nI_1 x, if_pos c_24, nI_clamp (by omega), c_37]; rfl) (by rw [dMay, ← hc0]; simp [c_38, c_46]) ls (lv_sub hl [3, 2, 1, 0] rfl)
        · skip
          refine lv_iload_n hx hb dX5_readItem_58 rfl (lv_at hl 1 rfl) ?_
          refine lv_bipush (v := 108) hx hb dX5_readItem_59 (by decide) ?_
          refine lv_icmp_ne (tgt := 71) hx hb dX5_readItem_61 (by decide) (fun c_47 => ?_) (fun c_47 => absurd (c_38.symm.trans c_47) (by decide))
          refine lv_iload_n hx hb dX5_readItem_71 rfl (lv_at hl 1 rfl) ?_
          refine lv_bipush (v := 104) hx hb dX5_readItem_72 (by decide) ?_
          refine lv_icmp_eq (tgt := 94) hx hb dX5_readItem_74 (by decide) (fun c_48 => absurd (c_38.symm.trans c_48) (by decide)) (fun c_48 => ?_)
          refine lv_iload_n hx hb dX5_readItem_77 rfl (lv_at hl 1 rfl) ?_
          refine lv_bipush (v := 115) hx hb dX5_readItem_78 (by decide) ?_
          refine lv_icmp_ne (tgt := 98) hx hb dX5_readItem_80 (by decide) (fun c_49 => ?_) (fun c_49 => absurd (c_38.symm.trans c_49) (by decide))
          refine lv_iconst (v := 0) hx hb dX5_readItem_98 (by decide) ?_
          refine lv_istore_n (lv' := [(3, .int 0), (2, .int 0), (1, .int c0), (0, .ref (a 0))]) hx hb dX5_readItem_99 rfl hl (by decide) rfl (fun ls hl => ?_)
          exact cut_100 false false (by rw [dAlone, hp, nI_1 x, if_pos c_24, nI_clamp (by omega), c_37]; rfl) (by rw [dMay, ← hc0]; simp [c_38, c_46]) ls (lv_sub hl [3, 2, 1, 0] rfl)
    · skip
      have c_37 := bI_0 c_37
      refine lv_iconst (v := 1) hx hb dX5_readItem_39 (by decide) ?_
      refine lv_goto (tgt := 44) hx hb dX5_readItem_40 (by decide) ?_
      refine lv_istore_n (lv' := [(2, .int 1), (1, .int c0), (0, .ref (a 0))]) hx hb dX5_readItem_44 rfl hl (by decide) rfl (fun ls hl => ?_)
      refine lv_iload_n hx hb dX5_readItem_45 rfl (lv_at hl 1 rfl) ?_
      refine lv_bipush (v := 110) hx hb dX5_readItem_46 (by decide) ?_
      refine lv_icmp_ne (tgt := 58) hx hb dX5_readItem_48 (by decide) (fun c_50 => ?_) (fun c_50 => ?_)
      · skip
        refine lv_iload_n hx hb dX5_readItem_58 rfl (lv_at hl 1 rfl) ?_
        refine lv_bipush (v := 108) hx hb dX5_readItem_59 (by decide) ?_
        refine lv_icmp_ne (tgt := 71) hx hb dX5_readItem_61 (by decide) (fun c_51 => ?_) (fun c_51 => ?_)
        · skip
          refine lv_iload_n hx hb dX5_readItem_71 rfl (lv_at hl 1 rfl) ?_
          refine lv_bipush (v := 104) hx hb dX5_readItem_72 (by decide) ?_
          refine lv_icmp_eq (tgt := 94) hx hb dX5_readItem_74 (by decide) (fun c_52 => ?_) (fun c_52 => ?_)
          · skip
            refine lv_iconst (v := 1) hx hb dX5_readItem_94 (by decide) ?_
            refine lv_goto (tgt := 99) hx hb dX5_readItem_95 (by decide) ?_
            refine lv_istore_n (lv' := [(3, .int 1), (2, .int 1), (1, .int c0), (0, .ref (a 0))]) hx hb dX5_readItem_99 rfl hl (by decide) rfl (fun ls hl => ?_)
            exact cut_100 true true (by rw [dAlone, hp, nI_1 x, if_pos c_24, nI_clamp (by omega), c_37]; rfl) (by rw [dMay, ← hc0]; simp [c_50, c_51, c_52]) ls (lv_sub hl [3, 2, 1, 0] rfl)
          · skip
            refine lv_iload_n hx hb dX5_readItem_77 rfl (lv_at hl 1 rfl) ?_
            refine lv_bipush (v := 115) hx hb dX5_readItem_78 (by decide) ?_
            refine lv_icmp_ne (tgt := 98) hx hb dX5_readItem_80 (by decide) (fun c_53 => ?_) (fun c_53 => ?_)
            · skip
              refine lv_iconst (v := 0) hx hb dX5_readItem_98 (by decide) ?_
              refine lv_istore_n (lv' := [(3, .int 0), (2, .int 1), (1, .int c0), (0, .ref (a 0))]) hx hb dX5_readItem_99 rfl hl (by decide) rfl (fun ls hl => ?_)
              exact cut_100 true false (by rw [dAlone, hp, nI_1 x, if_pos c_24, nI_clamp (by omega), c_37]; rfl) (by rw [dMay, ← hc0]; simp [c_50, c_51, c_52, c_53]) ls (lv_sub hl [3, 2, 1, 0] rfl)
            · skip
              refine lv_aload_n hx hb dX5_readItem_83 rfl (lv_at hl 2 rfl) ?_
              refine va_get (D := G.1) (ci := 5) (v := .ref (a 7)) (C := RX5) (T := TX5) (N := 21) hx hb hts i_X5_readItem_X5 hown hK.1 hP 0 rfl rfl 20 (by decide) f36 (fun _ h9 => h9) rfl dX5_readItem_84 ?_
              refine lv_iconst (v := 1) hx hb dX5_readItem_87 (by decide) ?_
              refine g_top (y := nI 1) rfl ?_
              refine g_iald hx hb hK.1 hP 7 0 rfl rfl (i := 1) (by omega) (by decide) dX5_readItem_88 ?_
              refine lv_bipush (v := 8) hx hb dX5_readItem_89 (by decide) ?_
              refine lv_icmp_ge (tgt := 98) hx hb dX5_readItem_91 (by decide) (fun c_54 => ?_) (fun c_54 => ?_)
              · skip
                have c_54 := gl_le c_54
                refine lv_iconst (v := 0) hx hb dX5_readItem_98 (by decide) ?_
                refine lv_istore_n (lv' := [(3, .int 0), (2, .int 1), (1, .int c0), (0, .ref (a 0))]) hx hb dX5_readItem_99 rfl hl (by decide) rfl (fun ls hl => ?_)
                exact cut_100 true false (by rw [dAlone, hp, nI_1 x, if_pos c_24, nI_clamp (by omega), c_37]; rfl) (by rw [dMay, ← hc0]; simp [c_50, c_51, c_52, c_53, c_54]) ls (lv_sub hl [3, 2, 1, 0] rfl)
              · skip
                have c_54 := gl_nle c_54
                refine lv_iconst (v := 1) hx hb dX5_readItem_94 (by decide) ?_
                refine lv_goto (tgt := 99) hx hb dX5_readItem_95 (by decide) ?_
                refine lv_istore_n (lv' := [(3, .int 1), (2, .int 1), (1, .int c0), (0, .ref (a 0))]) hx hb dX5_readItem_99 rfl hl (by decide) rfl (fun ls hl => ?_)
                exact cut_100 true true (by rw [dAlone, hp, nI_1 x, if_pos c_24, nI_clamp (by omega), c_37]; rfl) (by rw [dMay, ← hc0]; simp [c_50, c_51, c_52, c_53, c_54]) ls (lv_sub hl [3, 2, 1, 0] rfl)
        · skip
          refine lv_aload_n hx hb dX5_readItem_64 rfl (lv_at hl 2 rfl) ?_
          refine va_get (D := G.1) (ci := 5) (v := .int m.sl) (C := RX5) (T := TX5) (N := 21) hx hb hts i_X5_readItem_X5 hown hK.1 hP 0 rfl rfl 18 (by decide) f72 (fun _ h9 => h9) rfl dX5_readItem_65 ?_
          refine lv_if_eq (tgt := 94) hx hb dX5_readItem_68 (by decide) (fun c_55 => ?_) (fun c_55 => ?_)
          · skip
            refine lv_iconst (v := 1) hx hb dX5_readItem_94 (by decide) ?_
            refine lv_goto (tgt := 99) hx hb dX5_readItem_95 (by decide) ?_
            refine lv_istore_n (lv' := [(3, .int 1), (2, .int 1), (1, .int c0), (0, .ref (a 0))]) hx hb dX5_readItem_99 rfl hl (by decide) rfl (fun ls hl => ?_)
            exact cut_100 true true (by rw [dAlone, hp, nI_1 x, if_pos c_24, nI_clamp (by omega), c_37]; rfl) (by rw [dMay, ← hc0]; simp [c_50, c_51, c_55]) ls (lv_sub hl [3, 2, 1, 0] rfl)
          · skip
            refine lv_iload_n hx hb dX5_readItem_71 rfl (lv_at hl 1 rfl) ?_
            refine lv_bipush (v := 104) hx hb dX5_readItem_72 (by decide) ?_
            refine lv_icmp_eq (tgt := 94) hx hb dX5_readItem_74 (by decide) (fun c_56 => absurd (c_51.symm.trans c_56) (by decide)) (fun c_56 => ?_)
            refine lv_iload_n hx hb dX5_readItem_77 rfl (lv_at hl 1 rfl) ?_
            refine lv_bipush (v := 115) hx hb dX5_readItem_78 (by decide) ?_
            refine lv_icmp_ne (tgt := 98) hx hb dX5_readItem_80 (by decide) (fun c_57 => ?_) (fun c_57 => absurd (c_51.symm.trans c_57) (by decide))
            refine lv_iconst (v := 0) hx hb dX5_readItem_98 (by decide) ?_
            refine lv_istore_n (lv' := [(3, .int 0), (2, .int 1), (1, .int c0), (0, .ref (a 0))]) hx hb dX5_readItem_99 rfl hl (by decide) rfl (fun ls hl => ?_)
            exact cut_100 true false (by rw [dAlone, hp, nI_1 x, if_pos c_24, nI_clamp (by omega), c_37]; rfl) (by rw [dMay, ← hc0]; simp [c_50, c_51, c_55]) ls (lv_sub hl [3, 2, 1, 0] rfl)
      · skip
        refine lv_aload_n hx hb dX5_readItem_51 rfl (lv_at hl 2 rfl) ?_
        refine va_get (D := G.1) (ci := 5) (v := .int m.items) (C := RX5) (T := TX5) (N := 21) hx hb hts i_X5_readItem_X5 hown hK.1 hP 0 rfl rfl 15 (by decide) f59 (fun _ h9 => h9) rfl dX5_readItem_52 ?_
        refine lv_if_eq (tgt := 94) hx hb dX5_readItem_55 (by decide) (fun c_58 => ?_) (fun c_58 => ?_)
        · skip
          refine lv_iconst (v := 1) hx hb dX5_readItem_94 (by decide) ?_
          refine lv_goto (tgt := 99) hx hb dX5_readItem_95 (by decide) ?_
          refine lv_istore_n (lv' := [(3, .int 1), (2, .int 1), (1, .int c0), (0, .ref (a 0))]) hx hb dX5_readItem_99 rfl hl (by decide) rfl (fun ls hl => ?_)
          exact cut_100 true true (by rw [dAlone, hp, nI_1 x, if_pos c_24, nI_clamp (by omega), c_37]; rfl) (by rw [dMay, ← hc0]; simp [c_50, c_58]) ls (lv_sub hl [3, 2, 1, 0] rfl)
        · skip
          refine lv_iload_n hx hb dX5_readItem_58 rfl (lv_at hl 1 rfl) ?_
          refine lv_bipush (v := 108) hx hb dX5_readItem_59 (by decide) ?_
          refine lv_icmp_ne (tgt := 71) hx hb dX5_readItem_61 (by decide) (fun c_59 => ?_) (fun c_59 => absurd (c_50.symm.trans c_59) (by decide))
          refine lv_iload_n hx hb dX5_readItem_71 rfl (lv_at hl 1 rfl) ?_
          refine lv_bipush (v := 104) hx hb dX5_readItem_72 (by decide) ?_
          refine lv_icmp_eq (tgt := 94) hx hb dX5_readItem_74 (by decide) (fun c_60 => absurd (c_50.symm.trans c_60) (by decide)) (fun c_60 => ?_)
          refine lv_iload_n hx hb dX5_readItem_77 rfl (lv_at hl 1 rfl) ?_
          refine lv_bipush (v := 115) hx hb dX5_readItem_78 (by decide) ?_
          refine lv_icmp_ne (tgt := 98) hx hb dX5_readItem_80 (by decide) (fun c_61 => ?_) (fun c_61 => absurd (c_50.symm.trans c_61) (by decide))
          refine lv_iconst (v := 0) hx hb dX5_readItem_98 (by decide) ?_
          refine lv_istore_n (lv' := [(3, .int 0), (2, .int 1), (1, .int c0), (0, .ref (a 0))]) hx hb dX5_readItem_99 rfl hl (by decide) rfl (fun ls hl => ?_)
          exact cut_100 true false (by rw [dAlone, hp, nI_1 x, if_pos c_24, nI_clamp (by omega), c_37]; rfl) (by rw [dMay, ← hc0]; simp [c_50, c_58]) ls (lv_sub hl [3, 2, 1, 0] rfl)
