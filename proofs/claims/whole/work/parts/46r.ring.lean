theorem i_X4_keep_X0 : ∀ w ∈ wsX00, w ∈ wsX4_keep := by decide +kernel
theorem i_X4_keep_X2 : ∀ w ∈ wsX20, w ∈ wsX4_keep := by decide +kernel
theorem i_X4_keep_X4 : ∀ w ∈ wsX40, w ∈ wsX4_keep := by decide +kernel
theorem h_X4_keep : yX4_keep.cls = RX4 ∧ yX4_keep.cls ≠ "java/lang/invoke/MethodHandle" ∧ yX4_keep.cls ≠ "java/lang/invoke/VarHandle" ∧ (parseMethodDescriptor yX4_keep.desc).map (fun d => d.parameters.length) = some 1 := by decide +kernel
set_option maxHeartbeats 4000000 in
set_option maxRecDepth 100000 in
theorem c_X4_keep (lz : Launch) (G : gG) (r b f a d : Nat → Nat) (tr : Int64) (i j : Nat → Nat) (m0 : MoS) (m1 : MoS) (ke : Nat → Int32) (h : HaS) (im : Int32) : gWr lz yX4_keep wsX4_keep 2 G [.ref (r 0), .int im] (wRi r b f a d tr ++ wAq (r 1) G.2.2.2 2 (imF i j) ++ wMo i G.2.1 m0 ++ wMo j G.2.1 m1 ++ wAr (r 2) G.2.2.1 2 ke ++ wHa a G.2.1 h) (wRi r b f a d tr ++ wAq (r 1) G.2.2.2 2 (imF i j) ++ wMo i G.2.1 (xKe0 m0 h im) ++ wMo j G.2.1 (xKe1 m1 h im) ++ wAr (r 2) G.2.2.1 2 (xKeK ke im) ++ wHa a G.2.1 h) (some (.int (if wIn im 0 1 then h.mo.tick else -1))) := by
  refine g_wr (by decide) rfl (Nat.le_of_ble_eq_true rfl) ?_
  intro pz ez sz mz bz tz cz hx hb hr hml hown hts hlocks hK A hAe hP hD hS ls hl
  have hl : lv_has ls 2 [(0, .ref (r 0)), (1, .int im)] := hl
  have f126 := hts (.fieldLink RX4 126 "WhisperRing$Moment" "tick" "I") (by decide +kernel)
  have f25 := hts (.fieldLink RX4 25 "WhisperRing" "images" "[LWhisperRing$Moment;") (by decide +kernel)
  have f30 := hts (.fieldLink RX4 30 "WhisperRing" "kept" "[Z") (by decide +kernel)
  have f41 := hts (.fieldLink RX4 41 "WhisperRing" "hall" "LWhisperRing$Hall;") (by decide +kernel)
  have f68 := hts (.fieldLink RX4 68 "WhisperRing$Hall" "now" "LWhisperRing$Moment;") (by decide +kernel)
  refine lv_iload_n hx hb dX4_keep_0 rfl (lv_at hl 1 rfl) ?_
  refine lv_iconst (v := 0) hx hb dX4_keep_1 (by decide) ?_
  refine lv_iconst (v := 1) hx hb dX4_keep_2 (by decide) ?_
  refine g_rdS (As := [.int im, .int 0, .int 1]) (rest := []) (nL := 2) hx hb hml hown hts (c_X4_within lz G im 0 1) gX4_keep_X4_within rfl h_X4_within ⟨Nat.le_of_ble_eq_true rfl, Nat.le_of_ble_eq_true rfl⟩ hK gP_nil rfl hl.1 rfl (Nat.le_of_ble_eq_true rfl) ⟨Nat.le_refl _, Nat.le_refl _⟩ dX4_keep_3 ?_
  refine lv_if_ne (tgt := 11) hx hb dX4_keep_6 (by decide) (fun c_1 => ?_) (fun c_1 => ?_)
  · skip
    have c_1 := bI_1 c_1
    by_cases sp_2 : im = 0
    · skip
      have h01 : im = nI 0 := sp_2
      refine lv_aload_n hx hb dX4_keep_11 rfl (lv_at hl 0 rfl) ?_
      refine va_get (D := G.1) (ci := 4) (v := .ref (r 1)) (C := RX4) (T := TX4) (N := 8) hx hb hts i_X4_keep_X4 hown hK.1 hP 0 rfl rfl 2 (by decide) f25 (fun _ h9 => h9) rfl dX4_keep_12 ?_
      refine lv_iload_n hx hb dX4_keep_15 rfl (lv_at hl 1 rfl) ?_
      refine g_top (y := nI 0) (h01) ?_
      refine g_aald hx hb hK.1 hP 1 2 rfl rfl (i := 0) (v := i 0) (by decide) (by decide) rfl dX4_keep_16 ?_
      refine lv_aload_n hx hb dX4_keep_17 rfl (lv_at hl 0 rfl) ?_
      refine va_get (D := G.1) (ci := 4) (v := .ref (a 0)) (C := RX4) (T := TX4) (N := 8) hx hb hts i_X4_keep_X4 hown hK.1 hP 0 rfl rfl 5 (by decide) f41 (fun _ h9 => h9) rfl dX4_keep_18 ?_
      refine va_get (D := G.1) (ci := 0) (v := .ref (a 1)) (C := RX0) (T := TX0) (N := 6) hx hb hts i_X4_keep_X0 hown hK.1 hP 17 rfl rfl 3 (by decide) f68 (fun _ h9 => h9) rfl dX4_keep_21 ?_
      refine g_wrV (As := [.ref (a 1)]) (rest := []) (nL := 2) hx hb hml hown hts (c_X2_become lz G i (sh 1 a) m0 h.mo) gX4_keep_X2_become rfl h_X2_become ⟨Nat.le_of_ble_eq_true rfl, Nat.le_of_ble_eq_true rfl⟩ hK hP hD hS [2, 3, 4, 5, 6, 7, 8, 18, 19, 20, 21, 22, 23, 24] rfl rfl rfl (ws1 := wRi r b f a d tr ++ wAq (r 1) G.2.2.2 2 (imF i j) ++ wMo i G.2.1 (moCpy m0 h.mo) ++ wMo j G.2.1 m1 ++ wAr (r 2) G.2.2.1 2 ke ++ wHa a G.2.1 h) rfl [r 0, r 1, i 0, i 1, i 2, i 3, i 4, i 5, i 6, j 0, j 1, j 2, j 3, j 4, j 5, j 6, r 2, a 0, a 1, a 2, a 3, a 4, a 5, a 6, a 7, a 8, a 9] rfl rfl (ci := 2) rfl rfl rfl rfl hl.1 rfl (Nat.le_of_ble_eq_true rfl) ⟨Nat.le_refl _, Nat.le_refl _⟩ dX4_keep_24 (fun H locs hP hD hS => ?_)
      refine lv_aload_n hx hb dX4_keep_27 rfl (lv_at hl 0 rfl) ?_
      refine va_get (D := G.1) (ci := 4) (v := .ref (r 2)) (C := RX4) (T := TX4) (N := 8) hx hb hts i_X4_keep_X4 hown hK.1 hP 0 rfl rfl 3 (by decide) f30 (fun _ h9 => h9) rfl dX4_keep_28 ?_
      refine lv_iload_n hx hb dX4_keep_31 rfl (lv_at hl 1 rfl) ?_
      refine g_top (y := nI 0) (h01) ?_
      refine lv_iconst (v := 1) hx hb dX4_keep_32 (by decide) ?_
      refine g_zast hx hb hK.1 hP hD hS 16 1 rfl rfl (i := 0) (by omega) (by decide) rfl dX4_keep_33 (fun H locs hP hD hS => ?_)
      have hP : va_P G.1 vwCl (wRi r b f a d tr ++ wAq (r 1) G.2.2.2 2 (imF i j) ++ wMo i G.2.1 (moCpy m0 h.mo) ++ wMo j G.2.1 m1 ++ wAr (r 2) G.2.2.1 2 (upd ke 0 1) ++ wHa a G.2.1 h) H := hP
      have hD : va_D A (wRi r b f a d tr ++ wAq (r 1) G.2.2.2 2 (imF i j) ++ wMo i G.2.1 (moCpy m0 h.mo) ++ wMo j G.2.1 m1 ++ wAr (r 2) G.2.2.1 2 (upd ke 0 1) ++ wHa a G.2.1 h) := hD
      refine lv_aload_n hx hb dX4_keep_34 rfl (lv_at hl 0 rfl) ?_
      refine va_get (D := G.1) (ci := 4) (v := .ref (a 0)) (C := RX4) (T := TX4) (N := 8) hx hb hts i_X4_keep_X4 hown hK.1 hP 0 rfl rfl 5 (by decide) f41 (fun _ h9 => h9) rfl dX4_keep_35 ?_
      refine va_get (D := G.1) (ci := 0) (v := .ref (a 1)) (C := RX0) (T := TX0) (N := 6) hx hb hts i_X4_keep_X0 hown hK.1 hP 17 rfl rfl 3 (by decide) f68 (fun _ h9 => h9) rfl dX4_keep_38 ?_
      refine va_get (D := G.1) (ci := 2) (v := .int h.mo.tick) (C := RX2) (T := TX2) (N := 10) hx hb hts i_X4_keep_X2 hown hK.1 hP 18 rfl rfl 0 (by decide) f126 (fun _ h9 => h9) rfl dX4_keep_41 ?_
      have hP : va_P G.1 vwCl (wRi r b f a d tr ++ wAq (r 1) G.2.2.2 2 (imF i j) ++ wMo i G.2.1 (xKe0 m0 h im) ++ wMo j G.2.1 (xKe1 m1 h im) ++ wAr (r 2) G.2.2.1 2 (xKeK ke im) ++ wHa a G.2.1 h) H := by
        rw [xKe0, xKe1, xKeK] <;> (first | rw [if_pos c_1, if_pos c_1, if_pos c_1] | rw [if_neg c_1, if_neg c_1, if_neg c_1] | rw [if_neg (by rw [c_1]; decide), if_neg (by rw [c_1]; decide), if_neg (by rw [c_1]; decide)] | skip) <;> (first | rw [if_pos sp_2, if_pos sp_2, if_pos sp_2] | rw [if_neg sp_2, if_neg sp_2, if_neg sp_2] | rw [if_neg (by rw [sp_2]; decide), if_neg (by rw [sp_2]; decide), if_neg (by rw [sp_2]; decide)] | skip)
        exact hP
      exact g_wi hx hb hr hlocks hAe hP hS dX4_keep_44 (by (first | done | rw [if_pos c_1] | rw [if_neg c_1] | rw [if_neg (by rw [c_1]; decide)] | skip))
    · skip
      have h01 : im = nI 1 := wIn_01 c_1 sp_2
      refine lv_aload_n hx hb dX4_keep_11 rfl (lv_at hl 0 rfl) ?_
      refine va_get (D := G.1) (ci := 4) (v := .ref (r 1)) (C := RX4) (T := TX4) (N := 8) hx hb hts i_X4_keep_X4 hown hK.1 hP 0 rfl rfl 2 (by decide) f25 (fun _ h9 => h9) rfl dX4_keep_12 ?_
      refine lv_iload_n hx hb dX4_keep_15 rfl (lv_at hl 1 rfl) ?_
      refine g_top (y := nI 1) (h01) ?_
      refine g_aald hx hb hK.1 hP 1 2 rfl rfl (i := 1) (v := j 0) (by decide) (by decide) rfl dX4_keep_16 ?_
      refine lv_aload_n hx hb dX4_keep_17 rfl (lv_at hl 0 rfl) ?_
      refine va_get (D := G.1) (ci := 4) (v := .ref (a 0)) (C := RX4) (T := TX4) (N := 8) hx hb hts i_X4_keep_X4 hown hK.1 hP 0 rfl rfl 5 (by decide) f41 (fun _ h9 => h9) rfl dX4_keep_18 ?_
      refine va_get (D := G.1) (ci := 0) (v := .ref (a 1)) (C := RX0) (T := TX0) (N := 6) hx hb hts i_X4_keep_X0 hown hK.1 hP 17 rfl rfl 3 (by decide) f68 (fun _ h9 => h9) rfl dX4_keep_21 ?_
      refine g_wrV (As := [.ref (a 1)]) (rest := []) (nL := 2) hx hb hml hown hts (c_X2_become lz G j (sh 1 a) m1 h.mo) gX4_keep_X2_become rfl h_X2_become ⟨Nat.le_of_ble_eq_true rfl, Nat.le_of_ble_eq_true rfl⟩ hK hP hD hS [9, 10, 11, 12, 13, 14, 15, 18, 19, 20, 21, 22, 23, 24] rfl rfl rfl (ws1 := wRi r b f a d tr ++ wAq (r 1) G.2.2.2 2 (imF i j) ++ wMo i G.2.1 m0 ++ wMo j G.2.1 (moCpy m1 h.mo) ++ wAr (r 2) G.2.2.1 2 ke ++ wHa a G.2.1 h) rfl [r 0, r 1, i 0, i 1, i 2, i 3, i 4, i 5, i 6, j 0, j 1, j 2, j 3, j 4, j 5, j 6, r 2, a 0, a 1, a 2, a 3, a 4, a 5, a 6, a 7, a 8, a 9] rfl rfl (ci := 2) rfl rfl rfl rfl hl.1 rfl (Nat.le_of_ble_eq_true rfl) ⟨Nat.le_refl _, Nat.le_refl _⟩ dX4_keep_24 (fun H locs hP hD hS => ?_)
      refine lv_aload_n hx hb dX4_keep_27 rfl (lv_at hl 0 rfl) ?_
      refine va_get (D := G.1) (ci := 4) (v := .ref (r 2)) (C := RX4) (T := TX4) (N := 8) hx hb hts i_X4_keep_X4 hown hK.1 hP 0 rfl rfl 3 (by decide) f30 (fun _ h9 => h9) rfl dX4_keep_28 ?_
      refine lv_iload_n hx hb dX4_keep_31 rfl (lv_at hl 1 rfl) ?_
      refine g_top (y := nI 1) (h01) ?_
      refine lv_iconst (v := 1) hx hb dX4_keep_32 (by decide) ?_
      refine g_zast hx hb hK.1 hP hD hS 16 1 rfl rfl (i := 1) (by omega) (by decide) rfl dX4_keep_33 (fun H locs hP hD hS => ?_)
      have hP : va_P G.1 vwCl (wRi r b f a d tr ++ wAq (r 1) G.2.2.2 2 (imF i j) ++ wMo i G.2.1 m0 ++ wMo j G.2.1 (moCpy m1 h.mo) ++ wAr (r 2) G.2.2.1 2 (upd ke 1 1) ++ wHa a G.2.1 h) H := hP
      have hD : va_D A (wRi r b f a d tr ++ wAq (r 1) G.2.2.2 2 (imF i j) ++ wMo i G.2.1 m0 ++ wMo j G.2.1 (moCpy m1 h.mo) ++ wAr (r 2) G.2.2.1 2 (upd ke 1 1) ++ wHa a G.2.1 h) := hD
      refine lv_aload_n hx hb dX4_keep_34 rfl (lv_at hl 0 rfl) ?_
      refine va_get (D := G.1) (ci := 4) (v := .ref (a 0)) (C := RX4) (T := TX4) (N := 8) hx hb hts i_X4_keep_X4 hown hK.1 hP 0 rfl rfl 5 (by decide) f41 (fun _ h9 => h9) rfl dX4_keep_35 ?_
      refine va_get (D := G.1) (ci := 0) (v := .ref (a 1)) (C := RX0) (T := TX0) (N := 6) hx hb hts i_X4_keep_X0 hown hK.1 hP 17 rfl rfl 3 (by decide) f68 (fun _ h9 => h9) rfl dX4_keep_38 ?_
      refine va_get (D := G.1) (ci := 2) (v := .int h.mo.tick) (C := RX2) (T := TX2) (N := 10) hx hb hts i_X4_keep_X2 hown hK.1 hP 18 rfl rfl 0 (by decide) f126 (fun _ h9 => h9) rfl dX4_keep_41 ?_
      have hP : va_P G.1 vwCl (wRi r b f a d tr ++ wAq (r 1) G.2.2.2 2 (imF i j) ++ wMo i G.2.1 (xKe0 m0 h im) ++ wMo j G.2.1 (xKe1 m1 h im) ++ wAr (r 2) G.2.2.1 2 (xKeK ke im) ++ wHa a G.2.1 h) H := by
        rw [xKe0, xKe1, xKeK] <;> (first | rw [if_pos c_1, if_pos c_1, if_pos c_1] | rw [if_neg c_1, if_neg c_1, if_neg c_1] | rw [if_neg (by rw [c_1]; decide), if_neg (by rw [c_1]; decide), if_neg (by rw [c_1]; decide)] | skip) <;> (first | rw [if_pos sp_2, if_pos sp_2, if_pos sp_2] | rw [if_neg sp_2, if_neg sp_2, if_neg sp_2] | rw [if_neg (by rw [sp_2]; decide), if_neg (by rw [sp_2]; decide), if_neg (by rw [sp_2]; decide)] | skip)
        exact hP
      exact g_wi hx hb hr hlocks hAe hP hS dX4_keep_44 (by (first | done | rw [if_pos c_1] | rw [if_neg c_1] | rw [if_neg (by rw [c_1]; decide)] | skip))
  · skip
    have c_1 := bI_0 c_1
    refine lv_iconst (v := (-1)) hx hb dX4_keep_9 (by decide) ?_
    have hP : va_P G.1 vwCl (wRi r b f a d tr ++ wAq (r 1) G.2.2.2 2 (imF i j) ++ wMo i G.2.1 (xKe0 m0 h im) ++ wMo j G.2.1 (xKe1 m1 h im) ++ wAr (r 2) G.2.2.1 2 (xKeK ke im) ++ wHa a G.2.1 h) sz.heap := by
      rw [xKe0, xKe1, xKeK] <;> (first | rw [if_pos c_1, if_pos c_1, if_pos c_1] | rw [if_neg c_1, if_neg c_1, if_neg c_1] | rw [if_neg (by rw [c_1]; decide), if_neg (by rw [c_1]; decide), if_neg (by rw [c_1]; decide)] | skip)
      exact hP
    exact g_wi hx hb hr hlocks hAe hP hS dX4_keep_10 (by (first | done | rw [if_pos c_1] | rw [if_neg c_1] | rw [if_neg (by rw [c_1]; decide)] | skip))

theorem i_X4_back_X0 : ∀ w ∈ wsX00, w ∈ wsX4_back := by decide +kernel
theorem i_X4_back_X2 : ∀ w ∈ wsX20, w ∈ wsX4_back := by decide +kernel
theorem i_X4_back_X4 : ∀ w ∈ wsX40, w ∈ wsX4_back := by decide +kernel
theorem h_X4_back : yX4_back.cls = RX4 ∧ yX4_back.cls ≠ "java/lang/invoke/MethodHandle" ∧ yX4_back.cls ≠ "java/lang/invoke/VarHandle" ∧ (parseMethodDescriptor yX4_back.desc).map (fun d => d.parameters.length) = some 1 := by decide +kernel
set_option maxHeartbeats 4000000 in
set_option maxRecDepth 100000 in
theorem c_X4_back (lz : Launch) (G : gG) (r b f a d : Nat → Nat) (tr : Int64) (i j : Nat → Nat) (m0 : MoS) (m1 : MoS) (ke : Nat → Int32) (h : HaS) (im : Int32) : gWr lz yX4_back wsX4_back 2 G [.ref (r 0), .int im] (wRi r b f a d tr ++ wAq (r 1) G.2.2.2 2 (imF i j) ++ wMo i G.2.1 m0 ++ wMo j G.2.1 m1 ++ wAr (r 2) G.2.2.1 2 ke ++ wHa a G.2.1 h) (wRi r b f a d tr ++ wAq (r 1) G.2.2.2 2 (imF i j) ++ wMo i G.2.1 m0 ++ wMo j G.2.1 m1 ++ wAr (r 2) G.2.2.1 2 ke ++ wHa a G.2.1 (xBaS h m0 m1 ke im)) (some (.int (xBaR h m0 m1 ke im))) := by
  refine g_wr (by decide) rfl (Nat.le_of_ble_eq_true rfl) ?_
  intro pz ez sz mz bz tz cz hx hb hr hml hown hts hlocks hK A hAe hP hD hS ls hl
  have hl : lv_has ls 2 [(0, .ref (r 0)), (1, .int im)] := hl
  have f126 := hts (.fieldLink RX4 126 "WhisperRing$Moment" "tick" "I") (by decide +kernel)
  have f25 := hts (.fieldLink RX4 25 "WhisperRing" "images" "[LWhisperRing$Moment;") (by decide +kernel)
  have f30 := hts (.fieldLink RX4 30 "WhisperRing" "kept" "[Z") (by decide +kernel)
  have f41 := hts (.fieldLink RX4 41 "WhisperRing" "hall" "LWhisperRing$Hall;") (by decide +kernel)
  have f68 := hts (.fieldLink RX4 68 "WhisperRing$Hall" "now" "LWhisperRing$Moment;") (by decide +kernel)
  refine lv_iload_n hx hb dX4_back_0 rfl (lv_at hl 1 rfl) ?_
  refine lv_iconst (v := 0) hx hb dX4_back_1 (by decide) ?_
  refine lv_iconst (v := 1) hx hb dX4_back_2 (by decide) ?_
  refine g_rdS (As := [.int im, .int 0, .int 1]) (rest := []) (nL := 2) hx hb hml hown hts (c_X4_within lz G im 0 1) gX4_back_X4_within rfl h_X4_within ⟨Nat.le_of_ble_eq_true rfl, Nat.le_of_ble_eq_true rfl⟩ hK gP_nil rfl hl.1 rfl (Nat.le_of_ble_eq_true rfl) ⟨Nat.le_refl _, Nat.le_refl _⟩ dX4_back_3 ?_
  refine lv_if_ne (tgt := 11) hx hb dX4_back_6 (by decide) (fun c_1 => ?_) (fun c_1 => ?_)
  · skip
    have c_1 := bI_1 c_1
    by_cases sp_2 : im = 0
    · skip
      have h01 : im = nI 0 := sp_2
      refine lv_aload_n hx hb dX4_back_11 rfl (lv_at hl 0 rfl) ?_
      refine va_get (D := G.1) (ci := 4) (v := .ref (r 2)) (C := RX4) (T := TX4) (N := 8) hx hb hts i_X4_back_X4 hown hK.1 hP 0 rfl rfl 3 (by decide) f30 (fun _ h9 => h9) rfl dX4_back_12 ?_
      refine lv_iload_n hx hb dX4_back_15 rfl (lv_at hl 1 rfl) ?_
      refine g_top (y := nI 0) (h01) ?_
      refine g_zald hx hb hK.1 hP 16 1 rfl rfl (i := 0) (by omega) (by decide) dX4_back_16 ?_
      refine lv_if_ne (tgt := 23) hx hb dX4_back_17 (by decide) (fun c_3 => ?_) (fun c_3 => ?_)
      · skip
        refine lv_aload_n hx hb dX4_back_23 rfl (lv_at hl 0 rfl) ?_
        refine va_get (D := G.1) (ci := 4) (v := .ref (a 0)) (C := RX4) (T := TX4) (N := 8) hx hb hts i_X4_back_X4 hown hK.1 hP 0 rfl rfl 5 (by decide) f41 (fun _ h9 => h9) rfl dX4_back_24 ?_
        refine va_get (D := G.1) (ci := 0) (v := .ref (a 1)) (C := RX0) (T := TX0) (N := 6) hx hb hts i_X4_back_X0 hown hK.1 hP 17 rfl rfl 3 (by decide) f68 (fun _ h9 => h9) rfl dX4_back_27 ?_
        refine lv_aload_n hx hb dX4_back_30 rfl (lv_at hl 0 rfl) ?_
        refine va_get (D := G.1) (ci := 4) (v := .ref (r 1)) (C := RX4) (T := TX4) (N := 8) hx hb hts i_X4_back_X4 hown hK.1 hP 0 rfl rfl 2 (by decide) f25 (fun _ h9 => h9) rfl dX4_back_31 ?_
        refine lv_iload_n hx hb dX4_back_34 rfl (lv_at hl 1 rfl) ?_
        refine g_top (y := nI 0) (h01) ?_
        refine g_aald hx hb hK.1 hP 1 2 rfl rfl (i := 0) (v := i 0) (by decide) (by decide) rfl dX4_back_35 ?_
        refine g_wrV (As := [.ref (i 0)]) (rest := []) (nL := 2) hx hb hml hown hts (c_X2_become lz G (sh 1 a) i h.mo m0) gX4_back_X2_become rfl h_X2_become ⟨Nat.le_of_ble_eq_true rfl, Nat.le_of_ble_eq_true rfl⟩ hK hP hD hS [18, 19, 20, 21, 22, 23, 24, 2, 3, 4, 5, 6, 7, 8] rfl rfl rfl (ws1 := wRi r b f a d tr ++ wAq (r 1) G.2.2.2 2 (imF i j) ++ wMo i G.2.1 m0 ++ wMo j G.2.1 m1 ++ wAr (r 2) G.2.2.1 2 ke ++ wHa a G.2.1 (h.pl, h.loss, h.nich, (moCpy h.mo m0), h.ats, h.str)) rfl [r 0, r 1, i 0, i 1, i 2, i 3, i 4, i 5, i 6, j 0, j 1, j 2, j 3, j 4, j 5, j 6, r 2, a 0, a 1, a 2, a 3, a 4, a 5, a 6, a 7, a 8, a 9] rfl rfl (ci := 2) rfl rfl rfl rfl hl.1 rfl (Nat.le_of_ble_eq_true rfl) ⟨Nat.le_refl _, Nat.le_refl _⟩ dX4_back_36 (fun H locs hP hD hS => ?_)
        refine lv_aload_n hx hb dX4_back_39 rfl (lv_at hl 0 rfl) ?_
        refine va_get (D := G.1) (ci := 4) (v := .ref (a 0)) (C := RX4) (T := TX4) (N := 8) hx hb hts i_X4_back_X4 hown hK.1 hP 0 rfl rfl 5 (by decide) f41 (fun _ h9 => h9) rfl dX4_back_40 ?_
        refine va_get (D := G.1) (ci := 0) (v := .ref (a 1)) (C := RX0) (T := TX0) (N := 6) hx hb hts i_X4_back_X0 hown hK.1 hP 17 rfl rfl 3 (by decide) f68 (fun _ h9 => h9) rfl dX4_back_43 ?_
        refine va_get (D := G.1) (ci := 2) (v := .int ((moCpy h.mo m0).tick)) (C := RX2) (T := TX2) (N := 10) hx hb hts i_X4_back_X2 hown hK.1 hP 18 rfl rfl 0 (by decide) f126 (fun _ h9 => h9) rfl dX4_back_46 ?_
        have hP : va_P G.1 vwCl (wRi r b f a d tr ++ wAq (r 1) G.2.2.2 2 (imF i j) ++ wMo i G.2.1 m0 ++ wMo j G.2.1 m1 ++ wAr (r 2) G.2.2.1 2 ke ++ wHa a G.2.1 (xBaS h m0 m1 ke im)) H := by
          rw [xBaS] <;> (first | done | rw [if_pos c_1] | rw [if_neg c_1] | rw [if_neg (by rw [c_1]; decide)] | skip) <;> (first | done | rw [if_pos sp_2] | rw [if_neg sp_2] | rw [if_neg (by rw [sp_2]; decide)] | skip) <;> (first | done | rw [if_pos c_3] | rw [if_neg c_3] | rw [if_neg (by rw [c_3]; decide)] | skip)
          exact hP
        exact g_wi hx hb hr hlocks hAe hP hS dX4_back_49 (by rw [xBaR] <;> (first | done | rw [if_pos c_1] | rw [if_neg c_1] | rw [if_neg (by rw [c_1]; decide)] | skip) <;> (first | done | rw [if_pos sp_2] | rw [if_neg sp_2] | rw [if_neg (by rw [sp_2]; decide)] | skip) <;> (first | done | rw [if_pos c_3] | rw [if_neg c_3] | rw [if_neg (by rw [c_3]; decide)] | skip) <;> (first | done | rfl | (simp only [c_1, sp_2, c_3]; rfl) | (simp [c_1, sp_2, c_3, bI]; done)))
      · skip
        refine lv_bipush (v := (-2)) hx hb dX4_back_20 (by decide) ?_
        have hP : va_P G.1 vwCl (wRi r b f a d tr ++ wAq (r 1) G.2.2.2 2 (imF i j) ++ wMo i G.2.1 m0 ++ wMo j G.2.1 m1 ++ wAr (r 2) G.2.2.1 2 ke ++ wHa a G.2.1 (xBaS h m0 m1 ke im)) sz.heap := by
          rw [xBaS] <;> (first | done | rw [if_pos c_1] | rw [if_neg c_1] | rw [if_neg (by rw [c_1]; decide)] | skip) <;> (first | done | rw [if_pos sp_2] | rw [if_neg sp_2] | rw [if_neg (by rw [sp_2]; decide)] | skip) <;> (first | done | rw [if_pos c_3] | rw [if_neg c_3] | rw [if_neg (by rw [c_3]; decide)] | skip)
          exact hP
        exact g_wi hx hb hr hlocks hAe hP hS dX4_back_22 (by rw [xBaR] <;> (first | done | rw [if_pos c_1] | rw [if_neg c_1] | rw [if_neg (by rw [c_1]; decide)] | skip) <;> (first | done | rw [if_pos sp_2] | rw [if_neg sp_2] | rw [if_neg (by rw [sp_2]; decide)] | skip) <;> (first | done | rw [if_pos c_3] | rw [if_neg c_3] | rw [if_neg (by rw [c_3]; decide)] | skip) <;> (first | done | rfl | (simp only [c_1, sp_2, c_3]; rfl) | (simp [c_1, sp_2, c_3, bI]; done)))
    · skip
      have h01 : im = nI 1 := wIn_01 c_1 sp_2
      refine lv_aload_n hx hb dX4_back_11 rfl (lv_at hl 0 rfl) ?_
      refine va_get (D := G.1) (ci := 4) (v := .ref (r 2)) (C := RX4) (T := TX4) (N := 8) hx hb hts i_X4_back_X4 hown hK.1 hP 0 rfl rfl 3 (by decide) f30 (fun _ h9 => h9) rfl dX4_back_12 ?_
      refine lv_iload_n hx hb dX4_back_15 rfl (lv_at hl 1 rfl) ?_
      refine g_top (y := nI 1) (h01) ?_
      refine g_zald hx hb hK.1 hP 16 1 rfl rfl (i := 1) (by omega) (by decide) dX4_back_16 ?_
      refine lv_if_ne (tgt := 23) hx hb dX4_back_17 (by decide) (fun c_4 => ?_) (fun c_4 => ?_)
      · skip
        refine lv_aload_n hx hb dX4_back_23 rfl (lv_at hl 0 rfl) ?_
        refine va_get (D := G.1) (ci := 4) (v := .ref (a 0)) (C := RX4) (T := TX4) (N := 8) hx hb hts i_X4_back_X4 hown hK.1 hP 0 rfl rfl 5 (by decide) f41 (fun _ h9 => h9) rfl dX4_back_24 ?_
        refine va_get (D := G.1) (ci := 0) (v := .ref (a 1)) (C := RX0) (T := TX0) (N := 6) hx hb hts i_X4_back_X0 hown hK.1 hP 17 rfl rfl 3 (by decide) f68 (fun _ h9 => h9) rfl dX4_back_27 ?_
        refine lv_aload_n hx hb dX4_back_30 rfl (lv_at hl 0 rfl) ?_
        refine va_get (D := G.1) (ci := 4) (v := .ref (r 1)) (C := RX4) (T := TX4) (N := 8) hx hb hts i_X4_back_X4 hown hK.1 hP 0 rfl rfl 2 (by decide) f25 (fun _ h9 => h9) rfl dX4_back_31 ?_
        refine lv_iload_n hx hb dX4_back_34 rfl (lv_at hl 1 rfl) ?_
        refine g_top (y := nI 1) (h01) ?_
        refine g_aald hx hb hK.1 hP 1 2 rfl rfl (i := 1) (v := j 0) (by decide) (by decide) rfl dX4_back_35 ?_
        refine g_wrV (As := [.ref (j 0)]) (rest := []) (nL := 2) hx hb hml hown hts (c_X2_become lz G (sh 1 a) j h.mo m1) gX4_back_X2_become rfl h_X2_become ⟨Nat.le_of_ble_eq_true rfl, Nat.le_of_ble_eq_true rfl⟩ hK hP hD hS [18, 19, 20, 21, 22, 23, 24, 9, 10, 11, 12, 13, 14, 15] rfl rfl rfl (ws1 := wRi r b f a d tr ++ wAq (r 1) G.2.2.2 2 (imF i j) ++ wMo i G.2.1 m0 ++ wMo j G.2.1 m1 ++ wAr (r 2) G.2.2.1 2 ke ++ wHa a G.2.1 (h.pl, h.loss, h.nich, (moCpy h.mo m1), h.ats, h.str)) rfl [r 0, r 1, i 0, i 1, i 2, i 3, i 4, i 5, i 6, j 0, j 1, j 2, j 3, j 4, j 5, j 6, r 2, a 0, a 1, a 2, a 3, a 4, a 5, a 6, a 7, a 8, a 9] rfl rfl (ci := 2) rfl rfl rfl rfl hl.1 rfl (Nat.le_of_ble_eq_true rfl) ⟨Nat.le_refl _, Nat.le_refl _⟩ dX4_back_36 (fun H locs hP hD hS => ?_)
        refine lv_aload_n hx hb dX4_back_39 rfl (lv_at hl 0 rfl) ?_
        refine va_get (D := G.1) (ci := 4) (v := .ref (a 0)) (C := RX4) (T := TX4) (N := 8) hx hb hts i_X4_back_X4 hown hK.1 hP 0 rfl rfl 5 (by decide) f41 (fun _ h9 => h9) rfl dX4_back_40 ?_
        refine va_get (D := G.1) (ci := 0) (v := .ref (a 1)) (C := RX0) (T := TX0) (N := 6) hx hb hts i_X4_back_X0 hown hK.1 hP 17 rfl rfl 3 (by decide) f68 (fun _ h9 => h9) rfl dX4_back_43 ?_
        refine va_get (D := G.1) (ci := 2) (v := .int ((moCpy h.mo m1).tick)) (C := RX2) (T := TX2) (N := 10) hx hb hts i_X4_back_X2 hown hK.1 hP 18 rfl rfl 0 (by decide) f126 (fun _ h9 => h9) rfl dX4_back_46 ?_
        have hP : va_P G.1 vwCl (wRi r b f a d tr ++ wAq (r 1) G.2.2.2 2 (imF i j) ++ wMo i G.2.1 m0 ++ wMo j G.2.1 m1 ++ wAr (r 2) G.2.2.1 2 ke ++ wHa a G.2.1 (xBaS h m0 m1 ke im)) H := by
          rw [xBaS] <;> (first | done | rw [if_pos c_1] | rw [if_neg c_1] | rw [if_neg (by rw [c_1]; decide)] | skip) <;> (first | done | rw [if_pos sp_2] | rw [if_neg sp_2] | rw [if_neg (by rw [sp_2]; decide)] | skip) <;> (first | done | rw [if_pos c_4] | rw [if_neg c_4] | rw [if_neg (by rw [c_4]; decide)] | skip)
          exact hP
        exact g_wi hx hb hr hlocks hAe hP hS dX4_back_49 (by rw [xBaR] <;> (first | done | rw [if_pos c_1] | rw [if_neg c_1] | rw [if_neg (by rw [c_1]; decide)] | skip) <;> (first | done | rw [if_pos sp_2] | rw [if_neg sp_2] | rw [if_neg (by rw [sp_2]; decide)] | skip) <;> (first | done | rw [if_pos c_4] | rw [if_neg c_4] | rw [if_neg (by rw [c_4]; decide)] | skip) <;> (first | done | rfl | (simp only [c_1, sp_2, c_4]; rfl) | (simp [c_1, sp_2, c_4, bI]; done)))
      · skip
        refine lv_bipush (v := (-2)) hx hb dX4_back_20 (by decide) ?_
        have hP : va_P G.1 vwCl (wRi r b f a d tr ++ wAq (r 1) G.2.2.2 2 (imF i j) ++ wMo i G.2.1 m0 ++ wMo j G.2.1 m1 ++ wAr (r 2) G.2.2.1 2 ke ++ wHa a G.2.1 (xBaS h m0 m1 ke im)) sz.heap := by
          rw [xBaS] <;> (first | done | rw [if_pos c_1] | rw [if_neg c_1] | rw [if_neg (by rw [c_1]; decide)] | skip) <;> (first | done | rw [if_pos sp_2] | rw [if_neg sp_2] | rw [if_neg (by rw [sp_2]; decide)] | skip) <;> (first | done | rw [if_pos c_4] | rw [if_neg c_4] | rw [if_neg (by rw [c_4]; decide)] | skip)
          exact hP
        exact g_wi hx hb hr hlocks hAe hP hS dX4_back_22 (by rw [xBaR] <;> (first | done | rw [if_pos c_1] | rw [if_neg c_1] | rw [if_neg (by rw [c_1]; decide)] | skip) <;> (first | done | rw [if_pos sp_2] | rw [if_neg sp_2] | rw [if_neg (by rw [sp_2]; decide)] | skip) <;> (first | done | rw [if_pos c_4] | rw [if_neg c_4] | rw [if_neg (by rw [c_4]; decide)] | skip) <;> (first | done | rfl | (simp only [c_1, sp_2, c_4]; rfl) | (simp [c_1, sp_2, c_4, bI]; done)))
  · skip
    have c_1 := bI_0 c_1
    refine lv_iconst (v := (-1)) hx hb dX4_back_9 (by decide) ?_
    have hP : va_P G.1 vwCl (wRi r b f a d tr ++ wAq (r 1) G.2.2.2 2 (imF i j) ++ wMo i G.2.1 m0 ++ wMo j G.2.1 m1 ++ wAr (r 2) G.2.2.1 2 ke ++ wHa a G.2.1 (xBaS h m0 m1 ke im)) sz.heap := by
      rw [xBaS] <;> (first | done | rw [if_pos c_1] | rw [if_neg c_1] | rw [if_neg (by rw [c_1]; decide)] | skip)
      exact hP
    exact g_wi hx hb hr hlocks hAe hP hS dX4_back_10 (by rw [xBaR] <;> (first | done | rw [if_pos c_1] | rw [if_neg c_1] | rw [if_neg (by rw [c_1]; decide)] | skip) <;> (first | done | rfl | (simp only [c_1]; rfl) | (simp [c_1, bI]; done)))
