theorem i_X4_ticks_X0 : ∀ w ∈ wsX00, w ∈ wsX4_ticks := by decide +kernel
theorem i_X4_ticks_X2 : ∀ w ∈ wsX20, w ∈ wsX4_ticks := by decide +kernel
theorem i_X4_ticks_X4 : ∀ w ∈ wsX40, w ∈ wsX4_ticks := by decide +kernel
theorem h_X4_ticks : yX4_ticks.cls = RX4 ∧ yX4_ticks.cls ≠ "java/lang/invoke/MethodHandle" ∧ yX4_ticks.cls ≠ "java/lang/invoke/VarHandle" ∧ (parseMethodDescriptor yX4_ticks.desc).map (fun d => d.parameters.length) = some 1 := by decide +kernel
set_option maxHeartbeats 4000000 in
set_option maxRecDepth 100000 in
theorem c_X4_ticks (lz : Launch) (G : gG) (r b f a d : Nat → Nat) (tr : Int64) (h : HaS) (n k : Nat) (x : Int32) (hn : h.mo.sayings = nI n) (hn8 : n ≤ 8) (hk : h.mo.noted = nI k) (hk10 : k ≤ 10) : gWr lz yX4_ticks wsX4_ticks 4 G [.ref (r 0), .int x] (wRi r b f a d tr ++ wHa a G.2.1 h) (wRi r b f a d tr ++ wHa a G.2.1 (xTiS h n k x)) (some (.int (xTiR h n k x))) := by
  refine g_wr (by decide) rfl (Nat.le_of_ble_eq_true rfl) ?_
  intro pz ez sz mz bz tz cz hx hb hr hml hown hts hlocks hK A hAe hP hD hS ls hl
  have hl : lv_has ls 2 [(0, .ref (r 0)), (1, .int x)] := hl
  have f126 := hts (.fieldLink RX4 126 "WhisperRing$Moment" "tick" "I") (by decide +kernel)
  have f41 := hts (.fieldLink RX4 41 "WhisperRing" "hall" "LWhisperRing$Hall;") (by decide +kernel)
  have f68 := hts (.fieldLink RX4 68 "WhisperRing$Hall" "now" "LWhisperRing$Moment;") (by decide +kernel)
  refine lv_iload_n hx hb dX4_ticks_0 rfl (lv_at hl 1 rfl) ?_
  refine lv_iconst (v := 1) hx hb dX4_ticks_1 (by decide) ?_
  refine lv_bipush (v := 99) hx hb dX4_ticks_2 (by decide) ?_
  refine g_rdS (As := [.int x, .int 1, .int 99]) (rest := []) (nL := 2) hx hb hml hown hts (c_X4_within lz G x 1 99) gX4_ticks_X4_within rfl h_X4_within ⟨Nat.le_of_ble_eq_true rfl, Nat.le_of_ble_eq_true rfl⟩ hK gP_nil rfl hl.1 rfl (Nat.le_of_ble_eq_true rfl) ⟨Nat.le_refl _, Nat.le_refl _⟩ dX4_ticks_4 ?_
  refine lv_if_ne (tgt := 12) hx hb dX4_ticks_7 (by decide) (fun c_1 => ?_) (fun c_1 => ?_)
  · skip
    have c_1 := bI_1 c_1
    refine lv_aload_n hx hb dX4_ticks_12 rfl (lv_at hl 0 rfl) ?_
    refine va_get (D := G.1) (ci := 4) (v := .ref (a 0)) (C := RX4) (T := TX4) (N := 8) hx hb hts i_X4_ticks_X4 hown hK.1 hP 0 rfl rfl 5 (by decide) f41 (fun _ h9 => h9) rfl dX4_ticks_13 ?_
    refine va_get (D := G.1) (ci := 0) (v := .ref (a 1)) (C := RX0) (T := TX0) (N := 6) hx hb hts i_X4_ticks_X0 hown hK.1 hP 1 rfl rfl 3 (by decide) f68 (fun _ h9 => h9) rfl dX4_ticks_16 ?_
    refine va_get (D := G.1) (ci := 2) (v := .int h.mo.tick) (C := RX2) (T := TX2) (N := 10) hx hb hts i_X4_ticks_X2 hown hK.1 hP 2 rfl rfl 0 (by decide) f126 (fun _ h9 => h9) rfl dX4_ticks_19 ?_
    refine lv_iload_n hx hb dX4_ticks_22 rfl (lv_at hl 1 rfl) ?_
    refine lv_iadd hx hb dX4_ticks_23 ?_
    refine lv_sipush (v := 9999) hx hb dX4_ticks_24 (by decide) ?_
    refine lv_icmp_le (tgt := 33) hx hb dX4_ticks_27 (by decide) (fun c_2 => ?_) (fun c_2 => ?_)
    · skip
      have c_2 := gl_le c_2
      refine lv_aload_n hx hb dX4_ticks_33 rfl (lv_at hl 0 rfl) ?_
      refine va_get (D := G.1) (ci := 4) (v := .ref (a 0)) (C := RX4) (T := TX4) (N := 8) hx hb hts i_X4_ticks_X4 hown hK.1 hP 0 rfl rfl 5 (by decide) f41 (fun _ h9 => h9) rfl dX4_ticks_34 ?_
      refine va_get (D := G.1) (ci := 0) (v := .ref (a 1)) (C := RX0) (T := TX0) (N := 6) hx hb hts i_X4_ticks_X0 hown hK.1 hP 1 rfl rfl 3 (by decide) f68 (fun _ h9 => h9) rfl dX4_ticks_37 ?_
      refine lv_iload_n hx hb dX4_ticks_40 rfl (lv_at hl 1 rfl) ?_
      refine g_wrV (As := [.int x]) (rest := []) (nL := 2) hx hb hml hown hts (c_X2_goBy lz G (sh 1 a) h.mo k x hk hk10) gX4_ticks_X2_goBy rfl h_X2_goBy ⟨Nat.le_of_ble_eq_true rfl, Nat.le_of_ble_eq_true rfl⟩ hK hP hD hS [2, 3, 4, 5, 6, 7, 8] rfl rfl rfl (ws1 := wRi r b f a d tr ++ wHa a G.2.1 (h.pl, h.loss, h.nich, (moGo h.mo k x), h.ats, h.str)) rfl [r 0, a 0, a 1, a 2, a 3, a 4, a 5, a 6, a 7, a 8, a 9] rfl rfl (ci := 2) rfl rfl rfl rfl hl.1 rfl (Nat.le_of_ble_eq_true rfl) ⟨Nat.le_refl _, Nat.le_refl _⟩ dX4_ticks_41 (fun H locs hP hD hS => ?_)
      refine lv_aload_n hx hb dX4_ticks_44 rfl (lv_at hl 0 rfl) ?_
      refine va_get (D := G.1) (ci := 4) (v := .ref (a 0)) (C := RX4) (T := TX4) (N := 8) hx hb hts i_X4_ticks_X4 hown hK.1 hP 0 rfl rfl 5 (by decide) f41 (fun _ h9 => h9) rfl dX4_ticks_45 ?_
      refine lv_iconst (v := 0) hx hb dX4_ticks_48 (by decide) ?_
      refine g_wrV (As := [.int 0]) (rest := []) (nL := 2) hx hb hml hown hts (c_X0_listen lz G a (h.pl, h.loss, h.nich, (moGo h.mo k x), h.ats, h.str) n 0 ((moGo_say h.mo k x).trans hn) hn8) gX4_ticks_X0_listen rfl h_X0_listen ⟨Nat.le_of_ble_eq_true rfl, Nat.le_of_ble_eq_true rfl⟩ hK hP hD hS [1, 2, 3, 4, 5, 6, 7, 8, 9, 10] rfl rfl rfl (ws1 := wRi r b f a d tr ++ wHa a G.2.1 (hLis (h.pl, h.loss, h.nich, (moGo h.mo k x), h.ats, h.str) n 0)) rfl [r 0, a 0, a 1, a 2, a 3, a 4, a 5, a 6, a 7, a 8, a 9] rfl rfl (ci := 0) rfl rfl rfl rfl hl.1 rfl (Nat.le_of_ble_eq_true rfl) ⟨Nat.le_refl _, Nat.le_refl _⟩ dX4_ticks_49 (fun H locs hP hD hS => ?_)
      refine lv_aload_n hx hb dX4_ticks_52 rfl (lv_at hl 0 rfl) ?_
      refine va_get (D := G.1) (ci := 4) (v := .ref (a 0)) (C := RX4) (T := TX4) (N := 8) hx hb hts i_X4_ticks_X4 hown hK.1 hP 0 rfl rfl 5 (by decide) f41 (fun _ h9 => h9) rfl dX4_ticks_53 ?_
      refine g_rdV (As := []) (rest := []) (nL := 2) hx hb hml hown hts (c_X0_lasting lz G a (hLis (h.pl, h.loss, h.nich, (moGo h.mo k x), h.ats, h.str) n 0) n ((moGo_say h.mo k x).trans hn) hn8) gX4_ticks_X0_lasting rfl h_X0_lasting ⟨Nat.le_of_ble_eq_true rfl, Nat.le_of_ble_eq_true rfl⟩ hK (hP.sub [1, 2, 3, 4, 5, 6, 7, 8, 9, 10] rfl) (ci := 0) rfl rfl rfl rfl hl.1 rfl (Nat.le_of_ble_eq_true rfl) ⟨Nat.le_refl _, Nat.le_refl _⟩ dX4_ticks_56 ?_
      refine g_rdS (As := [.int (hLast (hLis (h.pl, h.loss, h.nich, (moGo h.mo k x), h.ats, h.str) n 0) n)]) (rest := []) (nL := 2) hx hb hml hown hts (c_J6_bitCount_0f7a4 lz G (hLast (hLis (h.pl, h.loss, h.nich, (moGo h.mo k x), h.ats, h.str) n 0) n)) gX4_ticks_J6_bitCount_0f7a4 rfl h_J6_bitCount_0f7a4 ⟨Nat.le_of_ble_eq_true rfl, Nat.le_of_ble_eq_true rfl⟩ hK gP_nil rfl hl.1 rfl (Nat.le_of_ble_eq_true rfl) ⟨Nat.le_refl _, Nat.le_refl _⟩ dX4_ticks_59 ?_
      have hP : va_P G.1 vwCl (wRi r b f a d tr ++ wHa a G.2.1 (xTiS h n k x)) H := by
        rw [xTiS] <;> (first | done | rw [if_pos c_1] | rw [if_neg c_1] | rw [if_neg (by rw [c_1]; decide)] | skip) <;> (first | done | rw [if_pos c_2] | rw [if_neg c_2] | rw [if_neg (by rw [c_2]; decide)] | skip)
        exact hP
      exact g_wi hx hb hr hlocks hAe hP hS dX4_ticks_62 (by rw [xTiR] <;> (first | done | rw [if_pos c_1] | rw [if_neg c_1] | rw [if_neg (by rw [c_1]; decide)] | skip) <;> (first | done | rw [if_pos c_2] | rw [if_neg c_2] | rw [if_neg (by rw [c_2]; decide)] | skip) <;> (first | done | rfl | (simp only [c_1, c_2]; rfl) | (simp [c_1, c_2, bI]; done)))
    · skip
      have c_2 := gl_nle c_2
      refine lv_bipush (v := (-2)) hx hb dX4_ticks_30 (by decide) ?_
      have hP : va_P G.1 vwCl (wRi r b f a d tr ++ wHa a G.2.1 (xTiS h n k x)) sz.heap := by
        rw [xTiS] <;> (first | done | rw [if_pos c_1] | rw [if_neg c_1] | rw [if_neg (by rw [c_1]; decide)] | skip) <;> (first | done | rw [if_pos c_2] | rw [if_neg c_2] | rw [if_neg (by rw [c_2]; decide)] | skip)
        exact hP
      exact g_wi hx hb hr hlocks hAe hP hS dX4_ticks_32 (by rw [xTiR] <;> (first | done | rw [if_pos c_1] | rw [if_neg c_1] | rw [if_neg (by rw [c_1]; decide)] | skip) <;> (first | done | rw [if_pos c_2] | rw [if_neg c_2] | rw [if_neg (by rw [c_2]; decide)] | skip) <;> (first | done | rfl | (simp only [c_1, c_2]; rfl) | (simp [c_1, c_2, bI]; done)))
  · skip
    have c_1 := bI_0 c_1
    refine lv_iconst (v := (-1)) hx hb dX4_ticks_10 (by decide) ?_
    have hP : va_P G.1 vwCl (wRi r b f a d tr ++ wHa a G.2.1 (xTiS h n k x)) sz.heap := by
      rw [xTiS] <;> (first | done | rw [if_pos c_1] | rw [if_neg c_1] | rw [if_neg (by rw [c_1]; decide)] | skip)
      exact hP
    exact g_wi hx hb hr hlocks hAe hP hS dX4_ticks_11 (by rw [xTiR] <;> (first | done | rw [if_pos c_1] | rw [if_neg c_1] | rw [if_neg (by rw [c_1]; decide)] | skip) <;> (first | done | rfl | (simp only [c_1]; rfl) | (simp [c_1, bI]; done)))

theorem i_X4_maySay_X4 : ∀ w ∈ wsX40, w ∈ wsX4_maySay := by decide +kernel
theorem h_X4_maySay : yX4_maySay.cls = RX4 ∧ yX4_maySay.cls ≠ "java/lang/invoke/MethodHandle" ∧ yX4_maySay.cls ≠ "java/lang/invoke/VarHandle" ∧ (parseMethodDescriptor yX4_maySay.desc).map (fun d => d.parameters.length) = some 4 := by decide +kernel
set_option maxHeartbeats 4000000 in
set_option maxRecDepth 100000 in
theorem c_X4_maySay (lz : Launch) (G : gG) (r b f a d : Nat → Nat) (tr : Int64) (h : HaS) (p sp wa lo : Int32) : gRd lz yX4_maySay wsX4_maySay 2 G [.ref (r 0), .int p, .int sp, .int wa, .int lo] (wRi r b f a d tr ++ wHa a G.2.1 h) (bI (mayB h p sp wa lo)) := by
  refine g_rd (by decide) rfl (Nat.le_of_ble_eq_true rfl) ?_
  intro pz ez sz mz bz tz cz hx hb hr hml hown hts hlocks hP hK ls hl
  have hl : lv_has ls 5 [(0, .ref (r 0)), (1, .int p), (2, .int sp), (3, .int wa), (4, .int lo)] := hl
  have f41 := hts (.fieldLink RX4 41 "WhisperRing" "hall" "LWhisperRing$Hall;") (by decide +kernel)
  refine lv_aload_n hx hb dX4_maySay_0 rfl (lv_at hl 0 rfl) ?_
  refine va_get (D := G.1) (ci := 4) (v := .ref (a 0)) (C := RX4) (T := TX4) (N := 8) hx hb hts i_X4_maySay_X4 hown hK.1 hP 0 rfl rfl 5 (by decide) f41 (fun _ h9 => h9) rfl dX4_maySay_1 ?_
  refine lv_iload_n hx hb dX4_maySay_4 rfl (lv_at hl 1 rfl) ?_
  refine g_rdV (As := [.int p]) (rest := []) (nL := 5) hx hb hml hown hts (c_X0_hasPlace lz G a h p) gX4_maySay_X0_hasPlace rfl h_X0_hasPlace ⟨Nat.le_of_ble_eq_true rfl, Nat.le_of_ble_eq_true rfl⟩ hK (hP.sub [1, 2, 3, 4, 5, 6, 7, 8, 9, 10] rfl) (ci := 0) rfl rfl rfl rfl hl.1 rfl (Nat.le_of_ble_eq_true rfl) ⟨Nat.le_refl _, Nat.le_refl _⟩ dX4_maySay_5 ?_
  refine lv_if_eq (tgt := 45) hx hb dX4_maySay_8 (by decide) (fun c_1 => ?_) (fun c_1 => ?_)
  · skip
    have c_1 := bI_0 c_1
    refine lv_iconst (v := 0) hx hb dX4_maySay_45 (by decide) ?_
    exact g_rz hx hb hr hlocks dX4_maySay_46 (by simp [mayB, bI, c_1])
  · skip
    have c_1 := bI_1 c_1
    refine lv_iload_n hx hb dX4_maySay_11 rfl (lv_at hl 2 rfl) ?_
    refine lv_iconst (v := 1) hx hb dX4_maySay_12 (by decide) ?_
    refine lv_bipush (v := 6) hx hb dX4_maySay_13 (by decide) ?_
    refine g_rdS (As := [.int sp, .int 1, .int 6]) (rest := []) (nL := 5) hx hb hml hown hts (c_X4_within lz G sp 1 6) gX4_maySay_X4_within rfl h_X4_within ⟨Nat.le_of_ble_eq_true rfl, Nat.le_of_ble_eq_true rfl⟩ hK gP_nil rfl hl.1 rfl (Nat.le_of_ble_eq_true rfl) ⟨Nat.le_refl _, Nat.le_refl _⟩ dX4_maySay_15 ?_
    refine lv_if_eq (tgt := 45) hx hb dX4_maySay_18 (by decide) (fun c_2 => ?_) (fun c_2 => ?_)
    · skip
      have c_2 := bI_0 c_2
      refine lv_iconst (v := 0) hx hb dX4_maySay_45 (by decide) ?_
      exact g_rz hx hb hr hlocks dX4_maySay_46 (by simp [mayB, bI, c_1, c_2])
    · skip
      have c_2 := bI_1 c_2
      refine lv_iload_n hx hb dX4_maySay_21 rfl (lv_at hl 3 rfl) ?_
      refine lv_iconst (v := 0) hx hb dX4_maySay_22 (by decide) ?_
      refine lv_iconst (v := 1) hx hb dX4_maySay_23 (by decide) ?_
      refine g_rdS (As := [.int wa, .int 0, .int 1]) (rest := []) (nL := 5) hx hb hml hown hts (c_X4_within lz G wa 0 1) gX4_maySay_X4_within rfl h_X4_within ⟨Nat.le_of_ble_eq_true rfl, Nat.le_of_ble_eq_true rfl⟩ hK gP_nil rfl hl.1 rfl (Nat.le_of_ble_eq_true rfl) ⟨Nat.le_refl _, Nat.le_refl _⟩ dX4_maySay_24 ?_
      refine lv_if_eq (tgt := 45) hx hb dX4_maySay_27 (by decide) (fun c_3 => ?_) (fun c_3 => ?_)
      · skip
        have c_3 := bI_0 c_3
        refine lv_iconst (v := 0) hx hb dX4_maySay_45 (by decide) ?_
        exact g_rz hx hb hr hlocks dX4_maySay_46 (by simp [mayB, bI, c_1, c_2, c_3])
      · skip
        have c_3 := bI_1 c_3
        refine lv_iload hx hb dX4_maySay_30 (lv_at hl 4 rfl) ?_
        refine lv_iconst (v := 1) hx hb dX4_maySay_32 (by decide) ?_
        refine lv_bipush (v := 30) hx hb dX4_maySay_33 (by decide) ?_
        refine g_rdS (As := [.int lo, .int 1, .int 30]) (rest := []) (nL := 5) hx hb hml hown hts (c_X4_within lz G lo 1 30) gX4_maySay_X4_within rfl h_X4_within ⟨Nat.le_of_ble_eq_true rfl, Nat.le_of_ble_eq_true rfl⟩ hK gP_nil rfl hl.1 rfl (Nat.le_of_ble_eq_true rfl) ⟨Nat.le_refl _, Nat.le_refl _⟩ dX4_maySay_35 ?_
        refine lv_if_eq (tgt := 45) hx hb dX4_maySay_38 (by decide) (fun c_4 => ?_) (fun c_4 => ?_)
        · skip
          have c_4 := bI_0 c_4
          refine lv_iconst (v := 0) hx hb dX4_maySay_45 (by decide) ?_
          exact g_rz hx hb hr hlocks dX4_maySay_46 (by simp [mayB, bI, c_1, c_2, c_3, c_4])
        · skip
          have c_4 := bI_1 c_4
          refine lv_iconst (v := 1) hx hb dX4_maySay_41 (by decide) ?_
          refine lv_goto (tgt := 46) hx hb dX4_maySay_42 (by decide) ?_
          exact g_rz hx hb hr hlocks dX4_maySay_46 (by simp [mayB, bI, c_1, c_2, c_3, c_4])

theorem i_X4_says_X0 : ∀ w ∈ wsX00, w ∈ wsX4_says := by decide +kernel
theorem i_X4_says_X2 : ∀ w ∈ wsX20, w ∈ wsX4_says := by decide +kernel
theorem i_X4_says_X4 : ∀ w ∈ wsX40, w ∈ wsX4_says := by decide +kernel
theorem h_X4_says : yX4_says.cls = RX4 ∧ yX4_says.cls ≠ "java/lang/invoke/MethodHandle" ∧ yX4_says.cls ≠ "java/lang/invoke/VarHandle" ∧ (parseMethodDescriptor yX4_says.desc).map (fun d => d.parameters.length) = some 4 := by decide +kernel
set_option maxHeartbeats 4000000 in
set_option maxRecDepth 100000 in
theorem c_X4_says (lz : Launch) (G : gG) (r b f a d : Nat → Nat) (tr : Int64) (h : HaS) (n k : Nat) (p sp wa lo : Int32) (hn : h.mo.sayings = nI n) (hn8 : n ≤ 8) (hk : h.mo.noted = nI k) (hk10 : k ≤ 10) : gWr lz yX4_says wsX4_says 3 G [.ref (r 0), .int p, .int sp, .int wa, .int lo] (wRi r b f a d tr ++ wHa a G.2.1 h) (wRi r b f a d tr ++ wHa a G.2.1 (xSaS h n k p sp wa lo)) (some (.int (xSaR h n k p sp wa lo))) := by
  refine g_wr (by decide) rfl (Nat.le_of_ble_eq_true rfl) ?_
  intro pz ez sz mz bz tz cz hx hb hr hml hown hts hlocks hK A hAe hP hD hS ls hl
  have hl : lv_has ls 5 [(0, .ref (r 0)), (1, .int p), (2, .int sp), (3, .int wa), (4, .int lo)] := hl
  have f151 := hts (.fieldLink RX4 151 "WhisperRing$Moment" "sayings" "I") (by decide +kernel)
  have f41 := hts (.fieldLink RX4 41 "WhisperRing" "hall" "LWhisperRing$Hall;") (by decide +kernel)
  have f68 := hts (.fieldLink RX4 68 "WhisperRing$Hall" "now" "LWhisperRing$Moment;") (by decide +kernel)
  refine lv_aload_n hx hb dX4_says_0 rfl (lv_at hl 0 rfl) ?_
  refine lv_iload_n hx hb dX4_says_1 rfl (lv_at hl 1 rfl) ?_
  refine lv_iload_n hx hb dX4_says_2 rfl (lv_at hl 2 rfl) ?_
  refine lv_iload_n hx hb dX4_says_3 rfl (lv_at hl 3 rfl) ?_
  refine lv_iload hx hb dX4_says_4 (lv_at hl 4 rfl) ?_
  refine g_rdV (As := [.int p, .int sp, .int wa, .int lo]) (rest := []) (nL := 5) hx hb hml hown hts (c_X4_maySay lz G r b f a d tr h p sp wa lo) gX4_says_X4_maySay rfl h_X4_maySay ⟨Nat.le_of_ble_eq_true rfl, Nat.le_of_ble_eq_true rfl⟩ hK hP (ci := 4) rfl rfl rfl rfl hl.1 rfl (Nat.le_of_ble_eq_true rfl) ⟨Nat.le_refl _, Nat.le_refl _⟩ dX4_says_6 ?_
  refine lv_if_ne (tgt := 14) hx hb dX4_says_9 (by decide) (fun c_1 => ?_) (fun c_1 => ?_)
  · skip
    have c_1 := bI_1 c_1
    refine lv_aload_n hx hb dX4_says_14 rfl (lv_at hl 0 rfl) ?_
    refine va_get (D := G.1) (ci := 4) (v := .ref (a 0)) (C := RX4) (T := TX4) (N := 8) hx hb hts i_X4_says_X4 hown hK.1 hP 0 rfl rfl 5 (by decide) f41 (fun _ h9 => h9) rfl dX4_says_15 ?_
    refine va_get (D := G.1) (ci := 0) (v := .ref (a 1)) (C := RX0) (T := TX0) (N := 6) hx hb hts i_X4_says_X0 hown hK.1 hP 1 rfl rfl 3 (by decide) f68 (fun _ h9 => h9) rfl dX4_says_18 ?_
    refine lv_iload_n hx hb dX4_says_21 rfl (lv_at hl 1 rfl) ?_
    refine lv_iload_n hx hb dX4_says_22 rfl (lv_at hl 2 rfl) ?_
    refine lv_iload_n hx hb dX4_says_23 rfl (lv_at hl 3 rfl) ?_
    refine lv_iload hx hb dX4_says_24 (lv_at hl 4 rfl) ?_
    refine g_wrV (As := [.int p, .int sp, .int wa, .int lo]) (rest := []) (nL := 5) hx hb hml hown hts (c_X2_add lz G (sh 1 a) h.mo n p sp wa lo hn hn8) gX4_says_X2_add rfl h_X2_add ⟨Nat.le_of_ble_eq_true rfl, Nat.le_of_ble_eq_true rfl⟩ hK hP hD hS [2, 3, 4, 5, 6, 7, 8] rfl rfl rfl (ws1 := wRi r b f a d tr ++ wHa a G.2.1 (h.pl, h.loss, h.nich, (moAdd h.mo n p sp wa lo), h.ats, h.str)) rfl [r 0, a 0, a 1, a 2, a 3, a 4, a 5, a 6, a 7, a 8, a 9] rfl rfl (ci := 2) rfl rfl rfl rfl hl.1 rfl (Nat.le_of_ble_eq_true rfl) ⟨Nat.le_refl _, Nat.le_refl _⟩ dX4_says_26 (fun H locs hP hD hS => ?_)
    generalize hg2 : moAdd h.mo n p sp wa lo = m2 at hP hD ⊢
    have hk2 : m2.noted = nI k := by rw [← hg2]; exact (moAdd_noted _ _ _ _ _ _).trans hk
    have hP : va_P G.1 vwCl (wRi r b f a d tr ++ wHa a G.2.1 (h.pl, h.loss, h.nich, m2, h.ats, h.str)) H := hP
    have hD : va_D A (wRi r b f a d tr ++ wHa a G.2.1 (h.pl, h.loss, h.nich, m2, h.ats, h.str)) := hD
    refine lv_if_ne (tgt := 35) hx hb dX4_says_29 (by decide) (fun c_3 => ?_) (fun c_3 => ?_)
    · skip
      have c_3 := bI_1 c_3
      refine lv_aload_n hx hb dX4_says_35 rfl (lv_at hl 0 rfl) ?_
      refine va_get (D := G.1) (ci := 4) (v := .ref (a 0)) (C := RX4) (T := TX4) (N := 8) hx hb hts i_X4_says_X4 hown hK.1 hP 0 rfl rfl 5 (by decide) f41 (fun _ h9 => h9) rfl dX4_says_36 ?_
      refine va_get (D := G.1) (ci := 0) (v := .ref (a 1)) (C := RX0) (T := TX0) (N := 6) hx hb hts i_X4_says_X0 hown hK.1 hP 1 rfl rfl 3 (by decide) f68 (fun _ h9 => h9) rfl dX4_says_39 ?_
      refine lv_iconst (v := 0) hx hb dX4_says_42 (by decide) ?_
      refine g_wrV (As := [.int 0]) (rest := []) (nL := 5) hx hb hml hown hts (c_X2_note lz G (sh 1 a) m2 k 0 hk2 hk10) gX4_says_X2_note rfl h_X2_note ⟨Nat.le_of_ble_eq_true rfl, Nat.le_of_ble_eq_true rfl⟩ hK hP hD hS [2, 3, 4, 5, 6, 7, 8] rfl rfl rfl (ws1 := wRi r b f a d tr ++ wHa a G.2.1 (h.pl, h.loss, h.nich, (moNote m2 k 0), h.ats, h.str)) rfl [r 0, a 0, a 1, a 2, a 3, a 4, a 5, a 6, a 7, a 8, a 9] rfl rfl (ci := 2) rfl rfl rfl rfl hl.1 rfl (Nat.le_of_ble_eq_true rfl) ⟨Nat.le_refl _, Nat.le_refl _⟩ dX4_says_43 (fun H locs hP hD hS => ?_)
      generalize hg4 : moNote m2 k 0 = m4 at hP hD ⊢
      have hP : va_P G.1 vwCl (wRi r b f a d tr ++ wHa a G.2.1 (h.pl, h.loss, h.nich, m4, h.ats, h.str)) H := hP
      have hD : va_D A (wRi r b f a d tr ++ wHa a G.2.1 (h.pl, h.loss, h.nich, m4, h.ats, h.str)) := hD
      refine lv_aload_n hx hb dX4_says_46 rfl (lv_at hl 0 rfl) ?_
      refine va_get (D := G.1) (ci := 4) (v := .ref (a 0)) (C := RX4) (T := TX4) (N := 8) hx hb hts i_X4_says_X4 hown hK.1 hP 0 rfl rfl 5 (by decide) f41 (fun _ h9 => h9) rfl dX4_says_47 ?_
      refine va_get (D := G.1) (ci := 0) (v := .ref (a 1)) (C := RX0) (T := TX0) (N := 6) hx hb hts i_X4_says_X0 hown hK.1 hP 1 rfl rfl 3 (by decide) f68 (fun _ h9 => h9) rfl dX4_says_50 ?_
      refine va_get (D := G.1) (ci := 2) (v := .int m4.sayings) (C := RX2) (T := TX2) (N := 10) hx hb hts i_X4_says_X2 hown hK.1 hP 2 rfl rfl 1 (by decide) f151 (fun _ h9 => h9) rfl dX4_says_53 ?_
      refine lv_iconst (v := 1) hx hb dX4_says_56 (by decide) ?_
      refine lv_isub hx hb dX4_says_57 ?_
      have hP : va_P G.1 vwCl (wRi r b f a d tr ++ wHa a G.2.1 (xSaS h n k p sp wa lo)) H := by
        rw [xSaS] <;> (try simp only [hg2, hg4]) <;> (first | done | rw [if_pos c_1] | rw [if_neg c_1] | rw [if_neg (by rw [c_1]; decide)] | skip) <;> (first | done | rw [if_pos c_3] | rw [if_neg c_3] | rw [if_neg (by rw [c_3]; decide)] | skip)
        exact hP
      exact g_wi hx hb hr hlocks hAe hP hS dX4_says_58 (by rw [xSaR] <;> (try simp only [hg2, hg4]) <;> (first | done | rw [if_pos c_1] | rw [if_neg c_1] | rw [if_neg (by rw [c_1]; decide)] | skip) <;> (first | done | rw [if_pos c_3] | rw [if_neg c_3] | rw [if_neg (by rw [c_3]; decide)] | skip) <;> (first | done | rfl | (simp only [c_1, c_3]; rfl) | (simp [c_1, c_3, bI]; done)))
    · skip
      have c_3 := bI_0 c_3
      refine lv_bipush (v := (-3)) hx hb dX4_says_32 (by decide) ?_
      have hP : va_P G.1 vwCl (wRi r b f a d tr ++ wHa a G.2.1 (xSaS h n k p sp wa lo)) H := by
        rw [xSaS] <;> (try simp only [hg2]) <;> (first | done | rw [if_pos c_1] | rw [if_neg c_1] | rw [if_neg (by rw [c_1]; decide)] | skip) <;> (first | done | rw [if_pos c_3] | rw [if_neg c_3] | rw [if_neg (by rw [c_3]; decide)] | skip)
        exact hP
      exact g_wi hx hb hr hlocks hAe hP hS dX4_says_34 (by rw [xSaR] <;> (try simp only [hg2]) <;> (first | done | rw [if_pos c_1] | rw [if_neg c_1] | rw [if_neg (by rw [c_1]; decide)] | skip) <;> (first | done | rw [if_pos c_3] | rw [if_neg c_3] | rw [if_neg (by rw [c_3]; decide)] | skip) <;> (first | done | rfl | (simp only [c_1, c_3]; rfl) | (simp [c_1, c_3, bI]; done)))
  · skip
    have c_1 := bI_0 c_1
    refine lv_iconst (v := (-1)) hx hb dX4_says_12 (by decide) ?_
    have hP : va_P G.1 vwCl (wRi r b f a d tr ++ wHa a G.2.1 (xSaS h n k p sp wa lo)) sz.heap := by
      rw [xSaS] <;> (first | done | rw [if_pos c_1] | rw [if_neg c_1] | rw [if_neg (by rw [c_1]; decide)] | skip)
      exact hP
    exact g_wi hx hb hr hlocks hAe hP hS dX4_says_13 (by rw [xSaR] <;> (first | done | rw [if_pos c_1] | rw [if_neg c_1] | rw [if_neg (by rw [c_1]; decide)] | skip) <;> (first | done | rfl | (simp only [c_1]; rfl) | (simp [c_1, bI]; done)))

theorem i_X4_hushes_X0 : ∀ w ∈ wsX00, w ∈ wsX4_hushes := by decide +kernel
theorem i_X4_hushes_X4 : ∀ w ∈ wsX40, w ∈ wsX4_hushes := by decide +kernel
theorem h_X4_hushes : yX4_hushes.cls = RX4 ∧ yX4_hushes.cls ≠ "java/lang/invoke/MethodHandle" ∧ yX4_hushes.cls ≠ "java/lang/invoke/VarHandle" ∧ (parseMethodDescriptor yX4_hushes.desc).map (fun d => d.parameters.length) = some 1 := by decide +kernel
set_option maxHeartbeats 4000000 in
set_option maxRecDepth 100000 in
theorem c_X4_hushes (lz : Launch) (G : gG) (r b f a d : Nat → Nat) (tr : Int64) (h : HaS) (n k : Nat) (s : Int32) (hn : h.mo.sayings = nI n) (hn8 : n ≤ 8) (hk : h.mo.noted = nI k) (hk10 : k ≤ 10) : gWr lz yX4_hushes wsX4_hushes 3 G [.ref (r 0), .int s] (wRi r b f a d tr ++ wHa a G.2.1 h) (wRi r b f a d tr ++ wHa a G.2.1 (xHuS h k s)) (some (.int (xHuR h s))) := by
  refine g_wr (by decide) rfl (Nat.le_of_ble_eq_true rfl) ?_
  intro pz ez sz mz bz tz cz hx hb hr hml hown hts hlocks hK A hAe hP hD hS ls hl
  have hl : lv_has ls 3 [(0, .ref (r 0)), (1, .int s)] := hl
  have f41 := hts (.fieldLink RX4 41 "WhisperRing" "hall" "LWhisperRing$Hall;") (by decide +kernel)
  have f68 := hts (.fieldLink RX4 68 "WhisperRing$Hall" "now" "LWhisperRing$Moment;") (by decide +kernel)
  refine lv_aload_n hx hb dX4_hushes_0 rfl (lv_at hl 0 rfl) ?_
  refine va_get (D := G.1) (ci := 4) (v := .ref (a 0)) (C := RX4) (T := TX4) (N := 8) hx hb hts i_X4_hushes_X4 hown hK.1 hP 0 rfl rfl 5 (by decide) f41 (fun _ h9 => h9) rfl dX4_hushes_1 ?_
  refine lv_iload_n hx hb dX4_hushes_4 rfl (lv_at hl 1 rfl) ?_
  refine g_rdV (As := [.int s]) (rest := []) (nL := 3) hx hb hml hown hts (c_X0_hasSaying lz G a h s) gX4_hushes_X0_hasSaying rfl h_X0_hasSaying ⟨Nat.le_of_ble_eq_true rfl, Nat.le_of_ble_eq_true rfl⟩ hK (hP.sub [1, 2, 3, 4, 5, 6, 7, 8, 9, 10] rfl) (ci := 0) rfl rfl rfl rfl hl.1 rfl (Nat.le_of_ble_eq_true rfl) ⟨Nat.le_refl _, Nat.le_refl _⟩ dX4_hushes_5 ?_
  refine lv_if_ne (tgt := 13) hx hb dX4_hushes_8 (by decide) (fun c_1 => ?_) (fun c_1 => ?_)
  · skip
    have c_1 := bI_1 c_1
    obtain ⟨hj, hsj⟩ := wIn_nat hn hn8 c_1
    refine lv_aload_n hx hb dX4_hushes_13 rfl (lv_at hl 0 rfl) ?_
    refine va_get (D := G.1) (ci := 4) (v := .ref (a 0)) (C := RX4) (T := TX4) (N := 8) hx hb hts i_X4_hushes_X4 hown hK.1 hP 0 rfl rfl 5 (by decide) f41 (fun _ h9 => h9) rfl dX4_hushes_14 ?_
    refine lv_iload_n hx hb dX4_hushes_17 rfl (lv_at hl 1 rfl) ?_
    refine g_top (y := nI s.toNatClampNeg) (hsj) ?_
    refine lv_iconst (v := 0) hx hb dX4_hushes_18 (by decide) ?_
    refine g_rdV (As := [.int (nI s.toNatClampNeg), .int 0]) (rest := []) (nL := 3) hx hb hml hown hts (c_X0_strengthAfter lz G a h s.toNatClampNeg 0 (by omega)) gX4_hushes_X0_strengthAfter rfl h_X0_strengthAfter ⟨Nat.le_of_ble_eq_true rfl, Nat.le_of_ble_eq_true rfl⟩ hK (hP.sub [1, 2, 3, 4, 5, 6, 7, 8, 9, 10] rfl) (ci := 0) rfl rfl rfl rfl hl.1 rfl (Nat.le_of_ble_eq_true rfl) ⟨Nat.le_refl _, Nat.le_refl _⟩ dX4_hushes_19 ?_
    refine lv_istore_n (lv' := [(2, .int (hStr h s.toNatClampNeg 0)), (0, .ref (r 0)), (1, .int s)]) hx hb dX4_hushes_22 rfl hl (by decide) rfl (fun ls hl => ?_)
    refine lv_iload_n hx hb dX4_hushes_23 rfl (lv_at hl 0 rfl) ?_
    refine lv_if_ne (tgt := 30) hx hb dX4_hushes_24 (by decide) (fun c_2 => ?_) (fun c_2 => ?_)
    · skip
      refine lv_aload_n hx hb dX4_hushes_30 rfl (lv_at hl 1 rfl) ?_
      refine va_get (D := G.1) (ci := 4) (v := .ref (a 0)) (C := RX4) (T := TX4) (N := 8) hx hb hts i_X4_hushes_X4 hown hK.1 hP 0 rfl rfl 5 (by decide) f41 (fun _ h9 => h9) rfl dX4_hushes_31 ?_
      refine va_get (D := G.1) (ci := 0) (v := .ref (a 1)) (C := RX0) (T := TX0) (N := 6) hx hb hts i_X4_hushes_X0 hown hK.1 hP 1 rfl rfl 3 (by decide) f68 (fun _ h9 => h9) rfl dX4_hushes_34 ?_
      refine lv_iload_n hx hb dX4_hushes_37 rfl (lv_at hl 2 rfl) ?_
      refine g_wrV (As := [.int s]) (rest := []) (nL := 3) hx hb hml hown hts (c_X2_hush lz G (sh 1 a) h.mo k s hk hk10) gX4_hushes_X2_hush rfl h_X2_hush ⟨Nat.le_of_ble_eq_true rfl, Nat.le_of_ble_eq_true rfl⟩ hK hP hD hS [2, 3, 4, 5, 6, 7, 8] rfl rfl rfl (ws1 := wRi r b f a d tr ++ wHa a G.2.1 (h.pl, h.loss, h.nich, (moHush h.mo k s), h.ats, h.str)) rfl [r 0, a 0, a 1, a 2, a 3, a 4, a 5, a 6, a 7, a 8, a 9] rfl rfl (ci := 2) rfl rfl rfl rfl hl.1 rfl (Nat.le_of_ble_eq_true rfl) ⟨Nat.le_refl _, Nat.le_refl _⟩ dX4_hushes_38 (fun H locs hP hD hS => ?_)
      refine lv_iload_n hx hb dX4_hushes_41 rfl (lv_at hl 0 rfl) ?_
      have hP : va_P G.1 vwCl (wRi r b f a d tr ++ wHa a G.2.1 (xHuS h k s)) H := by
        rw [xHuS] <;> (first | done | rw [if_pos c_1] | rw [if_neg c_1] | rw [if_neg (by rw [c_1]; decide)] | skip) <;> (first | done | rw [if_pos c_2] | rw [if_neg c_2] | rw [if_neg (by rw [c_2]; decide)] | skip)
        exact hP
      exact g_wi hx hb hr hlocks hAe hP hS dX4_hushes_42 (by rw [xHuR] <;> (first | done | rw [if_pos c_1] | rw [if_neg c_1] | rw [if_neg (by rw [c_1]; decide)] | skip) <;> (first | done | rw [if_pos c_2] | rw [if_neg c_2] | rw [if_neg (by rw [c_2]; decide)] | skip) <;> (first | done | rfl | (simp only [c_1, c_2]; rfl) | (simp [c_1, c_2, bI]; done)))
    · skip
      refine lv_bipush (v := (-2)) hx hb dX4_hushes_27 (by decide) ?_
      have hP : va_P G.1 vwCl (wRi r b f a d tr ++ wHa a G.2.1 (xHuS h k s)) sz.heap := by
        rw [xHuS] <;> (first | done | rw [if_pos c_1] | rw [if_neg c_1] | rw [if_neg (by rw [c_1]; decide)] | skip) <;> (first | done | rw [if_pos c_2] | rw [if_neg c_2] | rw [if_neg (by rw [c_2]; decide)] | skip)
        exact hP
      exact g_wi hx hb hr hlocks hAe hP hS dX4_hushes_29 (by rw [xHuR] <;> (first | done | rw [if_pos c_1] | rw [if_neg c_1] | rw [if_neg (by rw [c_1]; decide)] | skip) <;> (first | done | rw [if_pos c_2] | rw [if_neg c_2] | rw [if_neg (by rw [c_2]; decide)] | skip) <;> (first | done | rfl | (simp only [c_1, c_2]; rfl) | (simp [c_1, c_2, bI]; done)))
  · skip
    have c_1 := bI_0 c_1
    refine lv_iconst (v := (-1)) hx hb dX4_hushes_11 (by decide) ?_
    have hP : va_P G.1 vwCl (wRi r b f a d tr ++ wHa a G.2.1 (xHuS h k s)) sz.heap := by
      rw [xHuS] <;> (first | done | rw [if_pos c_1] | rw [if_neg c_1] | rw [if_neg (by rw [c_1]; decide)] | skip)
      exact hP
    exact g_wi hx hb hr hlocks hAe hP hS dX4_hushes_12 (by rw [xHuR] <;> (first | done | rw [if_pos c_1] | rw [if_neg c_1] | rw [if_neg (by rw [c_1]; decide)] | skip) <;> (first | done | rfl | (simp only [c_1]; rfl) | (simp [c_1, bI]; done)))

theorem i_X4_undo_X0 : ∀ w ∈ wsX00, w ∈ wsX4_undo := by decide +kernel
theorem i_X4_undo_X2 : ∀ w ∈ wsX20, w ∈ wsX4_undo := by decide +kernel
theorem i_X4_undo_X4 : ∀ w ∈ wsX40, w ∈ wsX4_undo := by decide +kernel
theorem h_X4_undo : yX4_undo.cls = RX4 ∧ yX4_undo.cls ≠ "java/lang/invoke/MethodHandle" ∧ yX4_undo.cls ≠ "java/lang/invoke/VarHandle" ∧ (parseMethodDescriptor yX4_undo.desc).map (fun d => d.parameters.length) = some 0 := by decide +kernel
set_option maxHeartbeats 4000000 in
set_option maxRecDepth 100000 in
theorem c_X4_undo (lz : Launch) (G : gG) (r b f a d : Nat → Nat) (tr : Int64) (h : HaS) (k : Nat) (hk : h.mo.noted = nI k) (hk10 : k ≤ 10) : gWr lz yX4_undo wsX4_undo 1 G [.ref (r 0)] (wRi r b f a d tr ++ wHa a G.2.1 h) (wRi r b f a d tr ++ wHa a G.2.1 (h.pl, h.loss, h.nich, moBack h.mo k, h.ats, h.str)) (some (.int (xUnR h k))) := by
  refine g_wr (by decide) rfl (Nat.le_of_ble_eq_true rfl) ?_
  intro pz ez sz mz bz tz cz hx hb hr hml hown hts hlocks hK A hAe hP hD hS ls hl
  have hl : lv_has ls 1 [(0, .ref (r 0))] := hl
  have f161 := hts (.fieldLink RX4 161 "WhisperRing$Moment" "noted" "I") (by decide +kernel)
  have f41 := hts (.fieldLink RX4 41 "WhisperRing" "hall" "LWhisperRing$Hall;") (by decide +kernel)
  have f68 := hts (.fieldLink RX4 68 "WhisperRing$Hall" "now" "LWhisperRing$Moment;") (by decide +kernel)
  refine lv_aload_n hx hb dX4_undo_0 rfl (lv_at hl 0 rfl) ?_
  refine va_get (D := G.1) (ci := 4) (v := .ref (a 0)) (C := RX4) (T := TX4) (N := 8) hx hb hts i_X4_undo_X4 hown hK.1 hP 0 rfl rfl 5 (by decide) f41 (fun _ h9 => h9) rfl dX4_undo_1 ?_
  refine va_get (D := G.1) (ci := 0) (v := .ref (a 1)) (C := RX0) (T := TX0) (N := 6) hx hb hts i_X4_undo_X0 hown hK.1 hP 1 rfl rfl 3 (by decide) f68 (fun _ h9 => h9) rfl dX4_undo_4 ?_
  refine g_wrV (As := []) (rest := []) (nL := 1) hx hb hml hown hts (c_X2_takeBack lz G (sh 1 a) h.mo k hk hk10) gX4_undo_X2_takeBack rfl h_X2_takeBack ⟨Nat.le_of_ble_eq_true rfl, Nat.le_of_ble_eq_true rfl⟩ hK hP hD hS [2, 3, 4, 5, 6, 7, 8] rfl rfl rfl (ws1 := wRi r b f a d tr ++ wHa a G.2.1 (h.pl, h.loss, h.nich, (moBack h.mo k), h.ats, h.str)) rfl [r 0, a 0, a 1, a 2, a 3, a 4, a 5, a 6, a 7, a 8, a 9] rfl rfl (ci := 2) rfl rfl rfl rfl hl.1 rfl (Nat.le_of_ble_eq_true rfl) ⟨Nat.le_refl _, Nat.le_refl _⟩ dX4_undo_7 (fun H locs hP hD hS => ?_)
  refine lv_if_eq (tgt := 26) hx hb dX4_undo_10 (by decide) (fun c_1 => ?_) (fun c_1 => ?_)
  · skip
    have c_1 := bI_0 c_1
    refine lv_bipush (v := (-2)) hx hb dX4_undo_26 (by decide) ?_
    exact g_wi hx hb hr hlocks hAe hP hS dX4_undo_28 (by rw [xUnR] <;> (first | done | rw [if_pos c_1] | rw [if_neg c_1] | rw [if_neg (by rw [c_1]; decide)] | skip) <;> (first | done | rfl | (simp only [c_1]; rfl) | (simp [c_1, bI]; done)))
  · skip
    have c_1 := bI_1 c_1
    refine lv_aload_n hx hb dX4_undo_13 rfl (lv_at hl 0 rfl) ?_
    refine va_get (D := G.1) (ci := 4) (v := .ref (a 0)) (C := RX4) (T := TX4) (N := 8) hx hb hts i_X4_undo_X4 hown hK.1 hP 0 rfl rfl 5 (by decide) f41 (fun _ h9 => h9) rfl dX4_undo_14 ?_
    refine va_get (D := G.1) (ci := 0) (v := .ref (a 1)) (C := RX0) (T := TX0) (N := 6) hx hb hts i_X4_undo_X0 hown hK.1 hP 1 rfl rfl 3 (by decide) f68 (fun _ h9 => h9) rfl dX4_undo_17 ?_
    refine va_get (D := G.1) (ci := 2) (v := .int ((moBack h.mo k).noted)) (C := RX2) (T := TX2) (N := 10) hx hb hts i_X4_undo_X2 hown hK.1 hP 2 rfl rfl 3 (by decide) f161 (fun _ h9 => h9) rfl dX4_undo_20 ?_
    refine lv_goto (tgt := 28) hx hb dX4_undo_23 (by decide) ?_
    exact g_wi hx hb hr hlocks hAe hP hS dX4_undo_28 (by rw [xUnR] <;> (first | done | rw [if_pos c_1] | rw [if_neg c_1] | rw [if_neg (by rw [c_1]; decide)] | skip) <;> (first | done | rfl | (simp only [c_1]; rfl) | (simp [c_1, bI]; done)))

theorem i_X4_now_X0 : ∀ w ∈ wsX00, w ∈ wsX4_now := by decide +kernel
theorem i_X4_now_X2 : ∀ w ∈ wsX20, w ∈ wsX4_now := by decide +kernel
theorem i_X4_now_X4 : ∀ w ∈ wsX40, w ∈ wsX4_now := by decide +kernel
theorem h_X4_now : yX4_now.cls = RX4 ∧ yX4_now.cls ≠ "java/lang/invoke/MethodHandle" ∧ yX4_now.cls ≠ "java/lang/invoke/VarHandle" ∧ (parseMethodDescriptor yX4_now.desc).map (fun d => d.parameters.length) = some 1 := by decide +kernel
set_option maxHeartbeats 4000000 in
set_option maxRecDepth 100000 in
theorem c_X4_now (lz : Launch) (G : gG) (r b f a d : Nat → Nat) (tr : Int64) (h : HaS) (n N : Nat) (what : Int32) (hn : h.mo.sayings = nI n) (hn8 : n ≤ 8) (hN : h.pl = nI N) (hN24 : N ≤ 24) : gWr lz yX4_now wsX4_now 4 G [.ref (r 0), .int what] (wRi r b f a d tr ++ wHa a G.2.1 h) (wRi r b f a d tr ++ wHa a G.2.1 (hLis h n 0)) (some (.int (xNoR h n N what))) := by
  refine g_wr (by decide) rfl (Nat.le_of_ble_eq_true rfl) ?_
  intro pz ez sz mz bz tz cz hx hb hr hml hown hts hlocks hK A hAe hP hD hS ls hl
  have hl : lv_has ls 2 [(0, .ref (r 0)), (1, .int what)] := hl
  have f126 := hts (.fieldLink RX4 126 "WhisperRing$Moment" "tick" "I") (by decide +kernel)
  have f41 := hts (.fieldLink RX4 41 "WhisperRing" "hall" "LWhisperRing$Hall;") (by decide +kernel)
  have f68 := hts (.fieldLink RX4 68 "WhisperRing$Hall" "now" "LWhisperRing$Moment;") (by decide +kernel)
  refine lv_aload_n hx hb dX4_now_0 rfl (lv_at hl 0 rfl) ?_
  refine va_get (D := G.1) (ci := 4) (v := .ref (a 0)) (C := RX4) (T := TX4) (N := 8) hx hb hts i_X4_now_X4 hown hK.1 hP 0 rfl rfl 5 (by decide) f41 (fun _ h9 => h9) rfl dX4_now_1 ?_
  refine lv_iconst (v := 0) hx hb dX4_now_4 (by decide) ?_
  refine g_wrV (As := [.int 0]) (rest := []) (nL := 2) hx hb hml hown hts (c_X0_listen lz G a h n 0 hn hn8) gX4_now_X0_listen rfl h_X0_listen ⟨Nat.le_of_ble_eq_true rfl, Nat.le_of_ble_eq_true rfl⟩ hK hP hD hS [1, 2, 3, 4, 5, 6, 7, 8, 9, 10] rfl rfl rfl (ws1 := wRi r b f a d tr ++ wHa a G.2.1 (hLis h n 0)) rfl [r 0, a 0, a 1, a 2, a 3, a 4, a 5, a 6, a 7, a 8, a 9] rfl rfl (ci := 0) rfl rfl rfl rfl hl.1 rfl (Nat.le_of_ble_eq_true rfl) ⟨Nat.le_refl _, Nat.le_refl _⟩ dX4_now_5 (fun H locs hP hD hS => ?_)
  refine lv_iload_n hx hb dX4_now_8 rfl (lv_at hl 1 rfl) ?_
  by_cases k_1 : what = 0
  · refine lv_tableIn (tgt := 44) hx hb dX4_now_9 (by rw [k_1]; decide) (by rw [k_1]; decide) (by rw [k_1]; rfl) (by decide) ?_
    refine lv_aload_n hx hb dX4_now_44 rfl (lv_at hl 0 rfl) ?_
    refine va_get (D := G.1) (ci := 4) (v := .ref (a 0)) (C := RX4) (T := TX4) (N := 8) hx hb hts i_X4_now_X4 hown hK.1 hP 0 rfl rfl 5 (by decide) f41 (fun _ h9 => h9) rfl dX4_now_45 ?_
    refine va_get (D := G.1) (ci := 0) (v := .ref (a 1)) (C := RX0) (T := TX0) (N := 6) hx hb hts i_X4_now_X0 hown hK.1 hP 1 rfl rfl 3 (by decide) f68 (fun _ h9 => h9) rfl dX4_now_48 ?_
    refine va_get (D := G.1) (ci := 2) (v := .int ((hLis h n 0).mo.tick)) (C := RX2) (T := TX2) (N := 10) hx hb hts i_X4_now_X2 hown hK.1 hP 2 rfl rfl 0 (by decide) f126 (fun _ h9 => h9) rfl dX4_now_51 ?_
    exact g_wi hx hb hr hlocks hAe hP hS dX4_now_54 (by rw [xNoR] <;> (first | done | rw [if_pos k_1] | rw [if_neg k_1] | rw [if_neg (by rw [k_1]; decide)] | skip) <;> (first | done | rfl | (simp only [k_1]; rfl) | (simp [k_1, bI]; done)))
  · skip
    by_cases k_2 : what = 1
    · refine lv_tableIn (tgt := 55) hx hb dX4_now_9 (by rw [k_2]; decide) (by rw [k_2]; decide) (by rw [k_2]; rfl) (by decide) ?_
      refine lv_aload_n hx hb dX4_now_55 rfl (lv_at hl 0 rfl) ?_
      refine va_get (D := G.1) (ci := 4) (v := .ref (a 0)) (C := RX4) (T := TX4) (N := 8) hx hb hts i_X4_now_X4 hown hK.1 hP 0 rfl rfl 5 (by decide) f41 (fun _ h9 => h9) rfl dX4_now_56 ?_
      refine g_rdV (As := []) (rest := []) (nL := 2) hx hb hml hown hts (c_X0_lasting lz G a (hLis h n 0) n hn hn8) gX4_now_X0_lasting rfl h_X0_lasting ⟨Nat.le_of_ble_eq_true rfl, Nat.le_of_ble_eq_true rfl⟩ hK (hP.sub [1, 2, 3, 4, 5, 6, 7, 8, 9, 10] rfl) (ci := 0) rfl rfl rfl rfl hl.1 rfl (Nat.le_of_ble_eq_true rfl) ⟨Nat.le_refl _, Nat.le_refl _⟩ dX4_now_59 ?_
      exact g_wi hx hb hr hlocks hAe hP hS dX4_now_62 (by rw [xNoR] <;> (first | done | rw [if_pos k_1] | rw [if_neg k_1] | rw [if_neg (by rw [k_1]; decide)] | skip) <;> (first | done | rw [if_pos k_2] | rw [if_neg k_2] | rw [if_neg (by rw [k_2]; decide)] | skip) <;> (first | done | rfl | (simp only [k_1, k_2]; rfl) | (simp [k_1, k_2, bI]; done)))
    · skip
      by_cases k_3 : what = 2
      · refine lv_tableIn (tgt := 63) hx hb dX4_now_9 (by rw [k_3]; decide) (by rw [k_3]; decide) (by rw [k_3]; rfl) (by decide) ?_
        refine lv_aload_n hx hb dX4_now_63 rfl (lv_at hl 0 rfl) ?_
        refine va_get (D := G.1) (ci := 4) (v := .ref (a 0)) (C := RX4) (T := TX4) (N := 8) hx hb hts i_X4_now_X4 hown hK.1 hP 0 rfl rfl 5 (by decide) f41 (fun _ h9 => h9) rfl dX4_now_64 ?_
        refine lv_aload_n hx hb dX4_now_67 rfl (lv_at hl 0 rfl) ?_
        refine va_get (D := G.1) (ci := 4) (v := .ref (a 0)) (C := RX4) (T := TX4) (N := 8) hx hb hts i_X4_now_X4 hown hK.1 hP 0 rfl rfl 5 (by decide) f41 (fun _ h9 => h9) rfl dX4_now_68 ?_
        refine g_rdV (As := []) (rest := [.ref (a 0)]) (nL := 2) hx hb hml hown hts (c_X0_lasting lz G a (hLis h n 0) n hn hn8) gX4_now_X0_lasting rfl h_X0_lasting ⟨Nat.le_of_ble_eq_true rfl, Nat.le_of_ble_eq_true rfl⟩ hK (hP.sub [1, 2, 3, 4, 5, 6, 7, 8, 9, 10] rfl) (ci := 0) rfl rfl rfl rfl hl.1 rfl (Nat.le_of_ble_eq_true rfl) ⟨Nat.le_refl _, Nat.le_refl _⟩ dX4_now_71 ?_
        refine g_rdV (As := [.int (hLast (hLis h n 0) n)]) (rest := []) (nL := 2) hx hb hml hown hts (c_X0_strengthOf lz G a (hLis h n 0) n (hLast (hLis h n 0) n) hn hn8) gX4_now_X0_strengthOf rfl h_X0_strengthOf ⟨Nat.le_of_ble_eq_true rfl, Nat.le_of_ble_eq_true rfl⟩ hK (hP.sub [1, 2, 3, 4, 5, 6, 7, 8, 9, 10] rfl) (ci := 0) rfl rfl rfl rfl hl.1 rfl (Nat.le_of_ble_eq_true rfl) ⟨Nat.le_refl _, Nat.le_refl _⟩ dX4_now_74 ?_
        exact g_wi hx hb hr hlocks hAe hP hS dX4_now_77 (by rw [xNoR] <;> (first | done | rw [if_pos k_1] | rw [if_neg k_1] | rw [if_neg (by rw [k_1]; decide)] | skip) <;> (first | done | rw [if_pos k_2] | rw [if_neg k_2] | rw [if_neg (by rw [k_2]; decide)] | skip) <;> (first | done | rw [if_pos k_3] | rw [if_neg k_3] | rw [if_neg (by rw [k_3]; decide)] | skip) <;> (first | done | rfl | (simp only [k_1, k_2, k_3]; rfl) | (simp [k_1, k_2, k_3, bI]; done)))
      · skip
        by_cases k_4 : what = 3
        · refine lv_tableIn (tgt := 78) hx hb dX4_now_9 (by rw [k_4]; decide) (by rw [k_4]; decide) (by rw [k_4]; rfl) (by decide) ?_
          refine lv_aload_n hx hb dX4_now_78 rfl (lv_at hl 0 rfl) ?_
          refine va_get (D := G.1) (ci := 4) (v := .ref (a 0)) (C := RX4) (T := TX4) (N := 8) hx hb hts i_X4_now_X4 hown hK.1 hP 0 rfl rfl 5 (by decide) f41 (fun _ h9 => h9) rfl dX4_now_79 ?_
          refine g_rdV (As := []) (rest := []) (nL := 2) hx hb hml hown hts (c_X0_placesThatSound lz G a (hLis h n 0) n hn hn8 N hN hN24) gX4_now_X0_placesThatSound rfl h_X0_placesThatSound ⟨Nat.le_of_ble_eq_true rfl, Nat.le_of_ble_eq_true rfl⟩ hK (hP.sub [1, 2, 3, 4, 5, 6, 7, 8, 9, 10] rfl) (ci := 0) rfl rfl rfl rfl hl.1 rfl (Nat.le_of_ble_eq_true rfl) ⟨Nat.le_refl _, Nat.le_refl _⟩ dX4_now_82 ?_
          exact g_wi hx hb hr hlocks hAe hP hS dX4_now_85 (by rw [xNoR] <;> (first | done | rw [if_pos k_1] | rw [if_neg k_1] | rw [if_neg (by rw [k_1]; decide)] | skip) <;> (first | done | rw [if_pos k_2] | rw [if_neg k_2] | rw [if_neg (by rw [k_2]; decide)] | skip) <;> (first | done | rw [if_pos k_3] | rw [if_neg k_3] | rw [if_neg (by rw [k_3]; decide)] | skip) <;> (first | done | rw [if_pos k_4] | rw [if_neg k_4] | rw [if_neg (by rw [k_4]; decide)] | skip) <;> (first | done | rfl | (simp only [k_1, k_2, k_3, k_4]; rfl) | (simp [k_1, k_2, k_3, k_4, bI]; done)))
        · skip
          by_cases k_5 : what = 4
          · refine lv_tableIn (tgt := 86) hx hb dX4_now_9 (by rw [k_5]; decide) (by rw [k_5]; decide) (by rw [k_5]; rfl) (by decide) ?_
            refine lv_aload_n hx hb dX4_now_86 rfl (lv_at hl 0 rfl) ?_
            refine va_get (D := G.1) (ci := 4) (v := .ref (a 0)) (C := RX4) (T := TX4) (N := 8) hx hb hts i_X4_now_X4 hown hK.1 hP 0 rfl rfl 5 (by decide) f41 (fun _ h9 => h9) rfl dX4_now_87 ?_
            refine g_rdV (As := []) (rest := []) (nL := 2) hx hb hml hown hts (c_X0_seas lz G a (hLis h n 0) n hn hn8 N hN hN24) gX4_now_X0_seas rfl h_X0_seas ⟨Nat.le_of_ble_eq_true rfl, Nat.le_of_ble_eq_true rfl⟩ hK (hP.sub [1, 2, 3, 4, 5, 6, 7, 8, 9, 10] rfl) (ci := 0) rfl rfl rfl rfl hl.1 rfl (Nat.le_of_ble_eq_true rfl) ⟨Nat.le_refl _, Nat.le_refl _⟩ dX4_now_90 ?_
            exact g_wi hx hb hr hlocks hAe hP hS dX4_now_93 (by rw [xNoR] <;> (first | done | rw [if_pos k_1] | rw [if_neg k_1] | rw [if_neg (by rw [k_1]; decide)] | skip) <;> (first | done | rw [if_pos k_2] | rw [if_neg k_2] | rw [if_neg (by rw [k_2]; decide)] | skip) <;> (first | done | rw [if_pos k_3] | rw [if_neg k_3] | rw [if_neg (by rw [k_3]; decide)] | skip) <;> (first | done | rw [if_pos k_4] | rw [if_neg k_4] | rw [if_neg (by rw [k_4]; decide)] | skip) <;> (first | done | rw [if_pos k_5] | rw [if_neg k_5] | rw [if_neg (by rw [k_5]; decide)] | skip) <;> (first | done | rfl | (simp only [k_1, k_2, k_3, k_4, k_5]; rfl) | (simp [k_1, k_2, k_3, k_4, k_5, bI]; done)))
          · skip
            refine lv_tableOut (tgt := 94) hx hb dX4_now_9 (by have n0 := lv_neT k_1 (a := 0) (by decide); have n1 := lv_neT k_2 (a := 1) (by decide); have n2 := lv_neT k_3 (a := 2) (by decide); have n3 := lv_neT k_4 (a := 3) (by decide); have n4 := lv_neT k_5 (a := 4) (by decide); omega) (by decide) ?_
            refine lv_iconst (v := (-1)) hx hb dX4_now_94 (by decide) ?_
            exact g_wi hx hb hr hlocks hAe hP hS dX4_now_95 (by rw [xNoR] <;> (first | done | rw [if_pos k_1] | rw [if_neg k_1] | rw [if_neg (by rw [k_1]; decide)] | skip) <;> (first | done | rw [if_pos k_2] | rw [if_neg k_2] | rw [if_neg (by rw [k_2]; decide)] | skip) <;> (first | done | rw [if_pos k_3] | rw [if_neg k_3] | rw [if_neg (by rw [k_3]; decide)] | skip) <;> (first | done | rw [if_pos k_4] | rw [if_neg k_4] | rw [if_neg (by rw [k_4]; decide)] | skip) <;> (first | done | rw [if_pos k_5] | rw [if_neg k_5] | rw [if_neg (by rw [k_5]; decide)] | skip) <;> (first | done | rfl | (simp only [k_1, k_2, k_3, k_4, k_5]; rfl) | (simp [k_1, k_2, k_3, k_4, k_5, bI]; done)))

theorem i_X4_when_X4 : ∀ w ∈ wsX40, w ∈ wsX4_when := by decide +kernel
theorem h_X4_when : yX4_when.cls = RX4 ∧ yX4_when.cls ≠ "java/lang/invoke/MethodHandle" ∧ yX4_when.cls ≠ "java/lang/invoke/VarHandle" ∧ (parseMethodDescriptor yX4_when.desc).map (fun d => d.parameters.length) = some 3 := by decide +kernel
set_option maxHeartbeats 4000000 in
set_option maxRecDepth 100000 in
theorem c_X4_when (lz : Launch) (G : gG) (r b f a d : Nat → Nat) (tr : Int64) (h : HaS) (n : Nat) (s p what : Int32) (hn : h.mo.sayings = nI n) (hn8 : n ≤ 8) : gRd lz yX4_when wsX4_when 5 G [.ref (r 0), .int s, .int p, .int what] (wRi r b f a d tr ++ wHa a G.2.1 h) (xWhR h s p what) := by
  refine g_rd (by decide) rfl (Nat.le_of_ble_eq_true rfl) ?_
  intro pz ez sz mz bz tz cz hx hb hr hml hown hts hlocks hP hK ls hl
  have hl : lv_has ls 4 [(0, .ref (r 0)), (1, .int s), (2, .int p), (3, .int what)] := hl
  have f41 := hts (.fieldLink RX4 41 "WhisperRing" "hall" "LWhisperRing$Hall;") (by decide +kernel)
  refine lv_aload_n hx hb dX4_when_0 rfl (lv_at hl 0 rfl) ?_
  refine va_get (D := G.1) (ci := 4) (v := .ref (a 0)) (C := RX4) (T := TX4) (N := 8) hx hb hts i_X4_when_X4 hown hK.1 hP 0 rfl rfl 5 (by decide) f41 (fun _ h9 => h9) rfl dX4_when_1 ?_
  refine lv_iload_n hx hb dX4_when_4 rfl (lv_at hl 1 rfl) ?_
  refine g_rdV (As := [.int s]) (rest := []) (nL := 4) hx hb hml hown hts (c_X0_hasSaying lz G a h s) gX4_when_X0_hasSaying rfl h_X0_hasSaying ⟨Nat.le_of_ble_eq_true rfl, Nat.le_of_ble_eq_true rfl⟩ hK (hP.sub [1, 2, 3, 4, 5, 6, 7, 8, 9, 10] rfl) (ci := 0) rfl rfl rfl rfl hl.1 rfl (Nat.le_of_ble_eq_true rfl) ⟨Nat.le_refl _, Nat.le_refl _⟩ dX4_when_5 ?_
  refine lv_if_eq (tgt := 22) hx hb dX4_when_8 (by decide) (fun c_1 => ?_) (fun c_1 => ?_)
  · skip
    have c_1 := bI_0 c_1
    refine lv_iconst (v := (-1)) hx hb dX4_when_22 (by decide) ?_
    exact g_ri hx hb hr hlocks dX4_when_23 (by rw [xWhR] <;> (first | done | rw [if_pos c_1] | rw [if_neg c_1] | rw [if_neg (by rw [c_1]; decide)] | skip) <;> (first | done | rfl | (simp only [c_1]; rfl) | (simp [c_1, bI]; done)))
  · skip
    have c_1 := bI_1 c_1
    obtain ⟨hj, hsj⟩ := wIn_nat hn hn8 c_1
    refine lv_aload_n hx hb dX4_when_11 rfl (lv_at hl 0 rfl) ?_
    refine va_get (D := G.1) (ci := 4) (v := .ref (a 0)) (C := RX4) (T := TX4) (N := 8) hx hb hts i_X4_when_X4 hown hK.1 hP 0 rfl rfl 5 (by decide) f41 (fun _ h9 => h9) rfl dX4_when_12 ?_
    refine lv_iload_n hx hb dX4_when_15 rfl (lv_at hl 2 rfl) ?_
    refine g_rdV (As := [.int p]) (rest := []) (nL := 4) hx hb hml hown hts (c_X0_hasPlace lz G a h p) gX4_when_X0_hasPlace rfl h_X0_hasPlace ⟨Nat.le_of_ble_eq_true rfl, Nat.le_of_ble_eq_true rfl⟩ hK (hP.sub [1, 2, 3, 4, 5, 6, 7, 8, 9, 10] rfl) (ci := 0) rfl rfl rfl rfl hl.1 rfl (Nat.le_of_ble_eq_true rfl) ⟨Nat.le_refl _, Nat.le_refl _⟩ dX4_when_16 ?_
    refine lv_if_ne (tgt := 24) hx hb dX4_when_19 (by decide) (fun c_2 => ?_) (fun c_2 => ?_)
    · skip
      have c_2 := bI_1 c_2
      refine lv_iload_n hx hb dX4_when_24 rfl (lv_at hl 3 rfl) ?_
      by_cases k_3 : what = 0
      · refine lv_lookup (tgt := 52) (off := 27) hx hb dX4_when_25 (by decide) (by rw [k_3] <;> rfl) (by decide) ?_
        refine lv_aload_n hx hb dX4_when_52 rfl (lv_at hl 0 rfl) ?_
        refine va_get (D := G.1) (ci := 4) (v := .ref (a 0)) (C := RX4) (T := TX4) (N := 8) hx hb hts i_X4_when_X4 hown hK.1 hP 0 rfl rfl 5 (by decide) f41 (fun _ h9 => h9) rfl dX4_when_53 ?_
        refine lv_iload_n hx hb dX4_when_56 rfl (lv_at hl 1 rfl) ?_
        refine g_top (y := nI s.toNatClampNeg) (hsj) ?_
        refine lv_iload_n hx hb dX4_when_57 rfl (lv_at hl 2 rfl) ?_
        refine g_rdV (As := [.int (nI s.toNatClampNeg), .int p]) (rest := []) (nL := 4) hx hb hml hown hts (c_X0_whenAt lz G a h s.toNatClampNeg p (by omega)) gX4_when_X0_whenAt rfl h_X0_whenAt ⟨Nat.le_of_ble_eq_true rfl, Nat.le_of_ble_eq_true rfl⟩ hK (hP.sub [1, 2, 3, 4, 5, 6, 7, 8, 9, 10] rfl) (ci := 0) rfl rfl rfl rfl hl.1 rfl (Nat.le_of_ble_eq_true rfl) ⟨Nat.le_refl _, Nat.le_refl _⟩ dX4_when_58 ?_
        exact g_ri hx hb hr hlocks dX4_when_61 (by rw [xWhR] <;> (first | done | rw [if_pos c_1] | rw [if_neg c_1] | rw [if_neg (by rw [c_1]; decide)] | skip) <;> (first | done | rw [if_pos c_2] | rw [if_neg c_2] | rw [if_neg (by rw [c_2]; decide)] | skip) <;> (first | done | rw [if_pos k_3] | rw [if_neg k_3] | rw [if_neg (by rw [k_3]; decide)] | skip) <;> (first | done | rfl | (simp only [c_1, c_2, k_3]; rfl) | (simp [c_1, c_2, k_3, bI]; done)))
      · skip
        by_cases k_4 : what = 1
        · refine lv_lookup (tgt := 62) (off := 37) hx hb dX4_when_25 (by decide) (by rw [k_4] <;> rfl) (by decide) ?_
          refine lv_aload_n hx hb dX4_when_62 rfl (lv_at hl 0 rfl) ?_
          refine va_get (D := G.1) (ci := 4) (v := .ref (a 0)) (C := RX4) (T := TX4) (N := 8) hx hb hts i_X4_when_X4 hown hK.1 hP 0 rfl rfl 5 (by decide) f41 (fun _ h9 => h9) rfl dX4_when_63 ?_
          refine lv_iload_n hx hb dX4_when_66 rfl (lv_at hl 1 rfl) ?_
          refine g_top (y := nI s.toNatClampNeg) (hsj) ?_
          refine lv_iload_n hx hb dX4_when_67 rfl (lv_at hl 2 rfl) ?_
          refine g_rdV (As := [.int (nI s.toNatClampNeg), .int p]) (rest := []) (nL := 4) hx hb hml hown hts (c_X0_oftenAt lz G a h s.toNatClampNeg p (by omega)) gX4_when_X0_oftenAt rfl h_X0_oftenAt ⟨Nat.le_of_ble_eq_true rfl, Nat.le_of_ble_eq_true rfl⟩ hK (hP.sub [1, 2, 3, 4, 5, 6, 7, 8, 9, 10] rfl) (ci := 0) rfl rfl rfl rfl hl.1 rfl (Nat.le_of_ble_eq_true rfl) ⟨Nat.le_refl _, Nat.le_refl _⟩ dX4_when_68 ?_
          exact g_ri hx hb hr hlocks dX4_when_71 (by rw [xWhR] <;> (first | done | rw [if_pos c_1] | rw [if_neg c_1] | rw [if_neg (by rw [c_1]; decide)] | skip) <;> (first | done | rw [if_pos c_2] | rw [if_neg c_2] | rw [if_neg (by rw [c_2]; decide)] | skip) <;> (first | done | rw [if_pos k_3] | rw [if_neg k_3] | rw [if_neg (by rw [k_3]; decide)] | skip) <;> (first | done | rw [if_pos k_4] | rw [if_neg k_4] | rw [if_neg (by rw [k_4]; decide)] | skip) <;> (first | done | rfl | (simp only [c_1, c_2, k_3, k_4]; rfl) | (simp [c_1, c_2, k_3, k_4, bI]; done)))
        · skip
          refine lv_lookup (tgt := 72) (off := 47) hx hb dX4_when_25 (by decide) (by rw [lv_osw k_3 (a := 0) (by decide), lv_osw k_4 (a := 1) (by decide)] <;> rfl) (by decide) ?_
          refine lv_iconst (v := (-1)) hx hb dX4_when_72 (by decide) ?_
          exact g_ri hx hb hr hlocks dX4_when_73 (by rw [xWhR] <;> (first | done | rw [if_pos c_1] | rw [if_neg c_1] | rw [if_neg (by rw [c_1]; decide)] | skip) <;> (first | done | rw [if_pos c_2] | rw [if_neg c_2] | rw [if_neg (by rw [c_2]; decide)] | skip) <;> (first | done | rw [if_pos k_3] | rw [if_neg k_3] | rw [if_neg (by rw [k_3]; decide)] | skip) <;> (first | done | rw [if_pos k_4] | rw [if_neg k_4] | rw [if_neg (by rw [k_4]; decide)] | skip) <;> (first | done | rfl | (simp only [c_1, c_2, k_3, k_4]; rfl) | (simp [c_1, c_2, k_3, k_4, bI]; done)))
    · skip
      have c_2 := bI_0 c_2
      refine lv_iconst (v := (-1)) hx hb dX4_when_22 (by decide) ?_
      exact g_ri hx hb hr hlocks dX4_when_23 (by rw [xWhR] <;> (first | done | rw [if_pos c_1] | rw [if_neg c_1] | rw [if_neg (by rw [c_1]; decide)] | skip) <;> (first | done | rw [if_pos c_2] | rw [if_neg c_2] | rw [if_neg (by rw [c_2]; decide)] | skip) <;> (first | done | rfl | (simp only [c_1, c_2]; rfl) | (simp [c_1, c_2, bI]; done)))

theorem i_X4_meet_X4 : ∀ w ∈ wsX40, w ∈ wsX4_meet := by decide +kernel
theorem h_X4_meet : yX4_meet.cls = RX4 ∧ yX4_meet.cls ≠ "java/lang/invoke/MethodHandle" ∧ yX4_meet.cls ≠ "java/lang/invoke/VarHandle" ∧ (parseMethodDescriptor yX4_meet.desc).map (fun d => d.parameters.length) = some 2 := by decide +kernel
set_option maxHeartbeats 4000000 in
set_option maxRecDepth 100000 in
theorem c_X4_meet (lz : Launch) (G : gG) (r b f a d : Nat → Nat) (tr : Int64) (h : HaS) (n : Nat) (s t : Int32) (hn : h.mo.sayings = nI n) (hn8 : n ≤ 8) : gRd lz yX4_meet wsX4_meet 5 G [.ref (r 0), .int s, .int t] (wRi r b f a d tr ++ wHa a G.2.1 h) (xMeR h s t) := by
  refine g_rd (by decide) rfl (Nat.le_of_ble_eq_true rfl) ?_
  intro pz ez sz mz bz tz cz hx hb hr hml hown hts hlocks hP hK ls hl
  have hl : lv_has ls 3 [(0, .ref (r 0)), (1, .int s), (2, .int t)] := hl
  have f41 := hts (.fieldLink RX4 41 "WhisperRing" "hall" "LWhisperRing$Hall;") (by decide +kernel)
  refine lv_aload_n hx hb dX4_meet_0 rfl (lv_at hl 0 rfl) ?_
  refine va_get (D := G.1) (ci := 4) (v := .ref (a 0)) (C := RX4) (T := TX4) (N := 8) hx hb hts i_X4_meet_X4 hown hK.1 hP 0 rfl rfl 5 (by decide) f41 (fun _ h9 => h9) rfl dX4_meet_1 ?_
  refine lv_iload_n hx hb dX4_meet_4 rfl (lv_at hl 1 rfl) ?_
  refine g_rdV (As := [.int s]) (rest := []) (nL := 3) hx hb hml hown hts (c_X0_hasSaying lz G a h s) gX4_meet_X0_hasSaying rfl h_X0_hasSaying ⟨Nat.le_of_ble_eq_true rfl, Nat.le_of_ble_eq_true rfl⟩ hK (hP.sub [1, 2, 3, 4, 5, 6, 7, 8, 9, 10] rfl) (ci := 0) rfl rfl rfl rfl hl.1 rfl (Nat.le_of_ble_eq_true rfl) ⟨Nat.le_refl _, Nat.le_refl _⟩ dX4_meet_5 ?_
  refine lv_if_eq (tgt := 27) hx hb dX4_meet_8 (by decide) (fun c_1 => ?_) (fun c_1 => ?_)
  · skip
    have c_1 := bI_0 c_1
    refine lv_iconst (v := (-1)) hx hb dX4_meet_27 (by decide) ?_
    exact g_ri hx hb hr hlocks dX4_meet_28 (by rw [xMeR] <;> (first | done | rw [if_pos c_1] | rw [if_neg c_1] | rw [if_neg (by rw [c_1]; decide)] | skip) <;> (first | done | rfl | (simp only [c_1]; rfl) | (simp [c_1, bI]; done)))
  · skip
    have c_1 := bI_1 c_1
    obtain ⟨hj, hsj⟩ := wIn_nat hn hn8 c_1
    refine lv_aload_n hx hb dX4_meet_11 rfl (lv_at hl 0 rfl) ?_
    refine va_get (D := G.1) (ci := 4) (v := .ref (a 0)) (C := RX4) (T := TX4) (N := 8) hx hb hts i_X4_meet_X4 hown hK.1 hP 0 rfl rfl 5 (by decide) f41 (fun _ h9 => h9) rfl dX4_meet_12 ?_
    refine lv_iload_n hx hb dX4_meet_15 rfl (lv_at hl 2 rfl) ?_
    refine g_rdV (As := [.int t]) (rest := []) (nL := 3) hx hb hml hown hts (c_X0_hasSaying lz G a h t) gX4_meet_X0_hasSaying rfl h_X0_hasSaying ⟨Nat.le_of_ble_eq_true rfl, Nat.le_of_ble_eq_true rfl⟩ hK (hP.sub [1, 2, 3, 4, 5, 6, 7, 8, 9, 10] rfl) (ci := 0) rfl rfl rfl rfl hl.1 rfl (Nat.le_of_ble_eq_true rfl) ⟨Nat.le_refl _, Nat.le_refl _⟩ dX4_meet_16 ?_
    refine lv_if_eq (tgt := 27) hx hb dX4_meet_19 (by decide) (fun c_2 => ?_) (fun c_2 => ?_)
    · skip
      have c_2 := bI_0 c_2
      refine lv_iconst (v := (-1)) hx hb dX4_meet_27 (by decide) ?_
      exact g_ri hx hb hr hlocks dX4_meet_28 (by rw [xMeR] <;> (first | done | rw [if_pos c_1] | rw [if_neg c_1] | rw [if_neg (by rw [c_1]; decide)] | skip) <;> (first | done | rw [if_pos c_2] | rw [if_neg c_2] | rw [if_neg (by rw [c_2]; decide)] | skip) <;> (first | done | rfl | (simp only [c_1, c_2]; rfl) | (simp [c_1, c_2, bI]; done)))
    · skip
      have c_2 := bI_1 c_2
      obtain ⟨hj2, htj⟩ := wIn_nat hn hn8 c_2
      refine lv_iload_n hx hb dX4_meet_22 rfl (lv_at hl 1 rfl) ?_
      refine lv_iload_n hx hb dX4_meet_23 rfl (lv_at hl 2 rfl) ?_
      refine lv_icmp_ne (tgt := 29) hx hb dX4_meet_24 (by decide) (fun c_3 => ?_) (fun c_3 => ?_)
      · skip
        refine lv_aload_n hx hb dX4_meet_29 rfl (lv_at hl 0 rfl) ?_
        refine va_get (D := G.1) (ci := 4) (v := .ref (a 0)) (C := RX4) (T := TX4) (N := 8) hx hb hts i_X4_meet_X4 hown hK.1 hP 0 rfl rfl 5 (by decide) f41 (fun _ h9 => h9) rfl dX4_meet_30 ?_
        refine lv_iload_n hx hb dX4_meet_33 rfl (lv_at hl 1 rfl) ?_
        refine g_top (y := nI s.toNatClampNeg) (hsj) ?_
        refine lv_iload_n hx hb dX4_meet_34 rfl (lv_at hl 2 rfl) ?_
        refine g_top (y := nI t.toNatClampNeg) (htj) ?_
        refine g_rdV (As := [.int (nI s.toNatClampNeg), .int (nI t.toNatClampNeg)]) (rest := []) (nL := 3) hx hb hml hown hts (c_X0_meetingOf lz G a h s.toNatClampNeg t.toNatClampNeg (by omega) (by omega)) gX4_meet_X0_meetingOf rfl h_X0_meetingOf ⟨Nat.le_of_ble_eq_true rfl, Nat.le_of_ble_eq_true rfl⟩ hK (hP.sub [1, 2, 3, 4, 5, 6, 7, 8, 9, 10] rfl) (ci := 0) rfl rfl rfl rfl hl.1 rfl (Nat.le_of_ble_eq_true rfl) ⟨Nat.le_refl _, Nat.le_refl _⟩ dX4_meet_35 ?_
        exact g_ri hx hb hr hlocks dX4_meet_38 (by rw [xMeR] <;> (first | done | rw [if_pos c_1] | rw [if_neg c_1] | rw [if_neg (by rw [c_1]; decide)] | skip) <;> (first | done | rw [if_pos c_2] | rw [if_neg c_2] | rw [if_neg (by rw [c_2]; decide)] | skip) <;> (first | done | rw [if_pos c_3] | rw [if_neg c_3] | rw [if_neg (by rw [c_3]; decide)] | skip) <;> (first | done | rfl | (simp only [c_1, c_2, c_3]; rfl) | (simp [c_1, c_2, c_3, bI]; done)))
      · skip
        refine lv_iconst (v := (-1)) hx hb dX4_meet_27 (by decide) ?_
        exact g_ri hx hb hr hlocks dX4_meet_28 (by rw [xMeR] <;> (first | done | rw [if_pos c_1] | rw [if_neg c_1] | rw [if_neg (by rw [c_1]; decide)] | skip) <;> (first | done | rw [if_pos c_2] | rw [if_neg c_2] | rw [if_neg (by rw [c_2]; decide)] | skip) <;> (first | done | rw [if_pos c_3] | rw [if_neg c_3] | rw [if_neg (by rw [c_3]; decide)] | skip) <;> (first | done | rfl | (simp only [c_1, c_2, c_3]; rfl) | (simp [c_1, c_2, c_3, bI]; done)))

theorem i_X4_best_X4 : ∀ w ∈ wsX40, w ∈ wsX4_best := by decide +kernel
theorem h_X4_best : yX4_best.cls = RX4 ∧ yX4_best.cls ≠ "java/lang/invoke/MethodHandle" ∧ yX4_best.cls ≠ "java/lang/invoke/VarHandle" ∧ (parseMethodDescriptor yX4_best.desc).map (fun d => d.parameters.length) = some 5 := by decide +kernel
set_option maxHeartbeats 4000000 in
set_option maxRecDepth 100000 in
theorem c_X4_best (lz : Launch) (G : gG) (r b f a d : Nat → Nat) (tr : Int64) (h : HaS) (n N : Nat) (p q sp wa lo : Int32) (hn : h.mo.sayings = nI n) (hn8 : n ≤ 8) (hN : h.pl = nI N) (hN24 : N ≤ 24) : gWr lz yX4_best wsX4_best 5 G [.ref (r 0), .int p, .int q, .int sp, .int wa, .int lo] (wRi r b f a d tr ++ wHa a G.2.1 h) (wRi r b f a d tr ++ wHa a G.2.1 (xBeS h n N p q sp wa lo)) (some (.int (xBeR h n N p q sp wa lo))) := by
  refine g_wr (by decide) rfl (Nat.le_of_ble_eq_true rfl) ?_
  intro pz ez sz mz bz tz cz hx hb hr hml hown hts hlocks hK A hAe hP hD hS ls hl
  have hl : lv_has ls 8 [(0, .ref (r 0)), (1, .int p), (2, .int q), (3, .int sp), (4, .int wa), (5, .int lo)] := hl
  have f41 := hts (.fieldLink RX4 41 "WhisperRing" "hall" "LWhisperRing$Hall;") (by decide +kernel)
  refine lv_aload_n hx hb dX4_best_0 rfl (lv_at hl 0 rfl) ?_
  refine lv_iload_n hx hb dX4_best_1 rfl (lv_at hl 1 rfl) ?_
  refine lv_iload_n hx hb dX4_best_2 rfl (lv_at hl 3 rfl) ?_
  refine lv_iload hx hb dX4_best_3 (lv_at hl 4 rfl) ?_
  refine lv_iload hx hb dX4_best_5 (lv_at hl 5 rfl) ?_
  refine g_rdV (As := [.int p, .int sp, .int wa, .int lo]) (rest := []) (nL := 8) hx hb hml hown hts (c_X4_maySay lz G r b f a d tr h p sp wa lo) gX4_best_X4_maySay rfl h_X4_maySay ⟨Nat.le_of_ble_eq_true rfl, Nat.le_of_ble_eq_true rfl⟩ hK hP (ci := 4) rfl rfl rfl rfl hl.1 rfl (Nat.le_of_ble_eq_true rfl) ⟨Nat.le_refl _, Nat.le_refl _⟩ dX4_best_7 ?_
  refine lv_if_eq (tgt := 24) hx hb dX4_best_10 (by decide) (fun c_1 => ?_) (fun c_1 => ?_)
  · skip
    have c_1 := bI_0 c_1
    refine lv_iconst (v := (-1)) hx hb dX4_best_24 (by decide) ?_
    have hP : va_P G.1 vwCl (wRi r b f a d tr ++ wHa a G.2.1 (xBeS h n N p q sp wa lo)) sz.heap := by
      rw [xBeS] <;> (first | done | rw [if_pos c_1] | rw [if_neg c_1] | rw [if_neg (by rw [c_1]; decide)] | skip)
      exact hP
    exact g_wi hx hb hr hlocks hAe hP hS dX4_best_25 (by rw [xBeR] <;> (first | done | rw [if_pos c_1] | rw [if_neg c_1] | rw [if_neg (by rw [c_1]; decide)] | skip) <;> (first | done | rfl | (simp only [c_1]; rfl) | (simp [c_1, bI]; done)))
  · skip
    have c_1 := bI_1 c_1
    refine lv_aload_n hx hb dX4_best_13 rfl (lv_at hl 0 rfl) ?_
    refine va_get (D := G.1) (ci := 4) (v := .ref (a 0)) (C := RX4) (T := TX4) (N := 8) hx hb hts i_X4_best_X4 hown hK.1 hP 0 rfl rfl 5 (by decide) f41 (fun _ h9 => h9) rfl dX4_best_14 ?_
    refine lv_iload_n hx hb dX4_best_17 rfl (lv_at hl 2 rfl) ?_
    refine g_rdV (As := [.int q]) (rest := []) (nL := 8) hx hb hml hown hts (c_X0_hasPlace lz G a h q) gX4_best_X0_hasPlace rfl h_X0_hasPlace ⟨Nat.le_of_ble_eq_true rfl, Nat.le_of_ble_eq_true rfl⟩ hK (hP.sub [1, 2, 3, 4, 5, 6, 7, 8, 9, 10] rfl) (ci := 0) rfl rfl rfl rfl hl.1 rfl (Nat.le_of_ble_eq_true rfl) ⟨Nat.le_refl _, Nat.le_refl _⟩ dX4_best_18 ?_
    refine lv_if_ne (tgt := 26) hx hb dX4_best_21 (by decide) (fun c_2 => ?_) (fun c_2 => ?_)
    · skip
      have c_2 := bI_1 c_2
      refine lv_aload_n hx hb dX4_best_26 rfl (lv_at hl 0 rfl) ?_
      refine va_get (D := G.1) (ci := 4) (v := .ref (a 0)) (C := RX4) (T := TX4) (N := 8) hx hb hts i_X4_best_X4 hown hK.1 hP 0 rfl rfl 5 (by decide) f41 (fun _ h9 => h9) rfl dX4_best_27 ?_
      refine lv_iload_n hx hb dX4_best_30 rfl (lv_at hl 1 rfl) ?_
      refine lv_iload_n hx hb dX4_best_31 rfl (lv_at hl 2 rfl) ?_
      refine lv_iload_n hx hb dX4_best_32 rfl (lv_at hl 3 rfl) ?_
      refine lv_iload hx hb dX4_best_33 (lv_at hl 4 rfl) ?_
      refine g_rdV (As := [.int p, .int q, .int sp, .int wa]) (rest := []) (nL := 8) hx hb hml hown hts (c_X0_ticksTo lz G a h N hN hN24 p q sp wa) gX4_best_X0_ticksTo rfl h_X0_ticksTo ⟨Nat.le_of_ble_eq_true rfl, Nat.le_of_ble_eq_true rfl⟩ hK (hP.sub [1, 2, 3, 4, 5, 6, 7, 8, 9, 10] rfl) (ci := 0) rfl rfl rfl rfl hl.1 rfl (Nat.le_of_ble_eq_true rfl) ⟨Nat.le_refl _, Nat.le_refl _⟩ dX4_best_35 ?_
      refine lv_istore (lv' := [(6, .int (hTicksTo h N p q sp wa)), (0, .ref (r 0)), (1, .int p), (2, .int q), (3, .int sp), (4, .int wa), (5, .int lo)]) hx hb dX4_best_38 hl (by decide) rfl (fun ls hl => ?_)
      refine lv_iload hx hb dX4_best_40 (lv_at hl 0 rfl) ?_
      refine lv_bipush (v := (-9)) hx hb dX4_best_42 (by decide) ?_
      refine lv_icmp_ne (tgt := 50) hx hb dX4_best_44 (by decide) (fun c_3 => ?_) (fun c_3 => ?_)
      · skip
        refine lv_aload_n hx hb dX4_best_50 rfl (lv_at hl 1 rfl) ?_
        refine va_get (D := G.1) (ci := 4) (v := .ref (a 0)) (C := RX4) (T := TX4) (N := 8) hx hb hts i_X4_best_X4 hown hK.1 hP 0 rfl rfl 5 (by decide) f41 (fun _ h9 => h9) rfl dX4_best_51 ?_
        refine lv_iload hx hb dX4_best_54 (lv_at hl 6 rfl) ?_
        refine lv_iload_n hx hb dX4_best_56 rfl (lv_at hl 4 rfl) ?_
        refine lv_iload hx hb dX4_best_57 (lv_at hl 0 rfl) ?_
        refine lv_imul hx hb dX4_best_59 ?_
        refine g_rdV (As := [.int lo, .int (sp * (hTicksTo h N p q sp wa))]) (rest := []) (nL := 8) hx hb hml hown hts (c_X0_strengthLeft lz G a h lo (sp * (hTicksTo h N p q sp wa))) gX4_best_X0_strengthLeft rfl h_X0_strengthLeft ⟨Nat.le_of_ble_eq_true rfl, Nat.le_of_ble_eq_true rfl⟩ hK (hP.sub [1, 2, 3, 4, 5, 6, 7, 8, 9, 10] rfl) (ci := 0) rfl rfl rfl rfl hl.1 rfl (Nat.le_of_ble_eq_true rfl) ⟨Nat.le_refl _, Nat.le_refl _⟩ dX4_best_60 ?_
        refine lv_istore (lv' := [(7, .int (hLeft h lo (sp * (hTicksTo h N p q sp wa)))), (6, .int (hTicksTo h N p q sp wa)), (0, .ref (r 0)), (1, .int p), (2, .int q), (3, .int sp), (4, .int wa), (5, .int lo)]) hx hb dX4_best_63 hl (by decide) rfl (fun ls hl => ?_)
        refine lv_iload hx hb dX4_best_65 (lv_at hl 0 rfl) ?_
        refine lv_if_ne (tgt := 73) hx hb dX4_best_67 (by decide) (fun c_4 => ?_) (fun c_4 => ?_)
        · skip
          refine lv_aload_n hx hb dX4_best_73 rfl (lv_at hl 2 rfl) ?_
          refine va_get (D := G.1) (ci := 4) (v := .ref (a 0)) (C := RX4) (T := TX4) (N := 8) hx hb hts i_X4_best_X4 hown hK.1 hP 0 rfl rfl 5 (by decide) f41 (fun _ h9 => h9) rfl dX4_best_74 ?_
          refine lv_iload_n hx hb dX4_best_77 rfl (lv_at hl 4 rfl) ?_
          refine lv_iload hx hb dX4_best_78 (lv_at hl 1 rfl) ?_
          refine lv_iload hx hb dX4_best_80 (lv_at hl 0 rfl) ?_
          refine g_wrV (As := [.int q, .int (hTicksTo h N p q sp wa), .int (hLeft h lo (sp * (hTicksTo h N p q sp wa)))]) (rest := []) (nL := 8) hx hb hml hown hts (c_X0_firstWait lz G a h n q (hTicksTo h N p q sp wa) (hLeft h lo (sp * (hTicksTo h N p q sp wa))) hn hn8) gX4_best_X0_firstWait rfl h_X0_firstWait ⟨Nat.le_of_ble_eq_true rfl, Nat.le_of_ble_eq_true rfl⟩ hK hP hD hS [1, 2, 3, 4, 5, 6, 7, 8, 9, 10] rfl rfl rfl (ws1 := wRi r b f a d tr ++ wHa a G.2.1 (hWaitS h n q (hTicksTo h N p q sp wa) (hLeft h lo (sp * (hTicksTo h N p q sp wa))))) rfl [r 0, a 0, a 1, a 2, a 3, a 4, a 5, a 6, a 7, a 8, a 9] rfl rfl (ci := 0) rfl rfl rfl rfl hl.1 rfl (Nat.le_of_ble_eq_true rfl) ⟨Nat.le_refl _, Nat.le_refl _⟩ dX4_best_82 (fun H locs hP hD hS => ?_)
          have hP : va_P G.1 vwCl (wRi r b f a d tr ++ wHa a G.2.1 (xBeS h n N p q sp wa lo)) H := by
            rw [xBeS] <;> (first | done | rw [if_pos c_1] | rw [if_neg c_1] | rw [if_neg (by rw [c_1]; decide)] | skip) <;> (first | done | rw [if_pos c_2] | rw [if_neg c_2] | rw [if_neg (by rw [c_2]; decide)] | skip) <;> (first | done | rw [if_pos c_3] | rw [if_neg c_3] | rw [if_neg (by rw [c_3]; decide)] | skip) <;> (first | done | rw [if_pos c_4] | rw [if_neg c_4] | rw [if_neg (by rw [c_4]; decide)] | skip)
            exact hP
          exact g_wi hx hb hr hlocks hAe hP hS dX4_best_85 (by rw [xBeR] <;> (first | done | rw [if_pos c_1] | rw [if_neg c_1] | rw [if_neg (by rw [c_1]; decide)] | skip) <;> (first | done | rw [if_pos c_2] | rw [if_neg c_2] | rw [if_neg (by rw [c_2]; decide)] | skip) <;> (first | done | rw [if_pos c_3] | rw [if_neg c_3] | rw [if_neg (by rw [c_3]; decide)] | skip) <;> (first | done | rw [if_pos c_4] | rw [if_neg c_4] | rw [if_neg (by rw [c_4]; decide)] | skip) <;> (first | done | rfl | (simp only [c_1, c_2, c_3, c_4]; rfl) | (simp [c_1, c_2, c_3, c_4, bI]; done)))
        · skip
          refine lv_bipush (v := (-9)) hx hb dX4_best_70 (by decide) ?_
          have hP : va_P G.1 vwCl (wRi r b f a d tr ++ wHa a G.2.1 (xBeS h n N p q sp wa lo)) sz.heap := by
            rw [xBeS] <;> (first | done | rw [if_pos c_1] | rw [if_neg c_1] | rw [if_neg (by rw [c_1]; decide)] | skip) <;> (first | done | rw [if_pos c_2] | rw [if_neg c_2] | rw [if_neg (by rw [c_2]; decide)] | skip) <;> (first | done | rw [if_pos c_3] | rw [if_neg c_3] | rw [if_neg (by rw [c_3]; decide)] | skip) <;> (first | done | rw [if_pos c_4] | rw [if_neg c_4] | rw [if_neg (by rw [c_4]; decide)] | skip)
            exact hP
          exact g_wi hx hb hr hlocks hAe hP hS dX4_best_72 (by rw [xBeR] <;> (first | done | rw [if_pos c_1] | rw [if_neg c_1] | rw [if_neg (by rw [c_1]; decide)] | skip) <;> (first | done | rw [if_pos c_2] | rw [if_neg c_2] | rw [if_neg (by rw [c_2]; decide)] | skip) <;> (first | done | rw [if_pos c_3] | rw [if_neg c_3] | rw [if_neg (by rw [c_3]; decide)] | skip) <;> (first | done | rw [if_pos c_4] | rw [if_neg c_4] | rw [if_neg (by rw [c_4]; decide)] | skip) <;> (first | done | rfl | (simp only [c_1, c_2, c_3, c_4]; rfl) | (simp [c_1, c_2, c_3, c_4, bI]; done)))
      · skip
        refine lv_bipush (v := (-9)) hx hb dX4_best_47 (by decide) ?_
        have hP : va_P G.1 vwCl (wRi r b f a d tr ++ wHa a G.2.1 (xBeS h n N p q sp wa lo)) sz.heap := by
          rw [xBeS] <;> (first | done | rw [if_pos c_1] | rw [if_neg c_1] | rw [if_neg (by rw [c_1]; decide)] | skip) <;> (first | done | rw [if_pos c_2] | rw [if_neg c_2] | rw [if_neg (by rw [c_2]; decide)] | skip) <;> (first | done | rw [if_pos c_3] | rw [if_neg c_3] | rw [if_neg (by rw [c_3]; decide)] | skip)
          exact hP
        exact g_wi hx hb hr hlocks hAe hP hS dX4_best_49 (by rw [xBeR] <;> (first | done | rw [if_pos c_1] | rw [if_neg c_1] | rw [if_neg (by rw [c_1]; decide)] | skip) <;> (first | done | rw [if_pos c_2] | rw [if_neg c_2] | rw [if_neg (by rw [c_2]; decide)] | skip) <;> (first | done | rw [if_pos c_3] | rw [if_neg c_3] | rw [if_neg (by rw [c_3]; decide)] | skip) <;> (first | done | rfl | (simp only [c_1, c_2, c_3]; rfl) | (simp [c_1, c_2, c_3, bI]; done)))
    · skip
      have c_2 := bI_0 c_2
      refine lv_iconst (v := (-1)) hx hb dX4_best_24 (by decide) ?_
      have hP : va_P G.1 vwCl (wRi r b f a d tr ++ wHa a G.2.1 (xBeS h n N p q sp wa lo)) sz.heap := by
        rw [xBeS] <;> (first | done | rw [if_pos c_1] | rw [if_neg c_1] | rw [if_neg (by rw [c_1]; decide)] | skip) <;> (first | done | rw [if_pos c_2] | rw [if_neg c_2] | rw [if_neg (by rw [c_2]; decide)] | skip)
        exact hP
      exact g_wi hx hb hr hlocks hAe hP hS dX4_best_25 (by rw [xBeR] <;> (first | done | rw [if_pos c_1] | rw [if_neg c_1] | rw [if_neg (by rw [c_1]; decide)] | skip) <;> (first | done | rw [if_pos c_2] | rw [if_neg c_2] | rw [if_neg (by rw [c_2]; decide)] | skip) <;> (first | done | rfl | (simp only [c_1, c_2]; rfl) | (simp [c_1, c_2, bI]; done)))

theorem i_X4_stills_X4 : ∀ w ∈ wsX40, w ∈ wsX4_stills := by decide +kernel
theorem h_X4_stills : yX4_stills.cls = RX4 ∧ yX4_stills.cls ≠ "java/lang/invoke/MethodHandle" ∧ yX4_stills.cls ≠ "java/lang/invoke/VarHandle" ∧ (parseMethodDescriptor yX4_stills.desc).map (fun d => d.parameters.length) = some 1 := by decide +kernel
set_option maxHeartbeats 4000000 in
set_option maxRecDepth 100000 in
theorem c_X4_stills (lz : Launch) (G : gG) (r b f a d : Nat → Nat) (tr : Int64) (h : HaS) (n : Nat) (s : Int32) (hn : h.mo.sayings = nI n) (hn8 : n ≤ 8) : gWr lz yX4_stills wsX4_stills 4 G [.ref (r 0), .int s] (wRi r b f a d tr ++ wHa a G.2.1 h) (wRi r b f a d tr ++ wHa a G.2.1 (xStS h n s)) (some (.int (xStR h n s))) := by
  refine g_wr (by decide) rfl (Nat.le_of_ble_eq_true rfl) ?_
  intro pz ez sz mz bz tz cz hx hb hr hml hown hts hlocks hK A hAe hP hD hS ls hl
  have hl : lv_has ls 2 [(0, .ref (r 0)), (1, .int s)] := hl
  have f41 := hts (.fieldLink RX4 41 "WhisperRing" "hall" "LWhisperRing$Hall;") (by decide +kernel)
  refine lv_aload_n hx hb dX4_stills_0 rfl (lv_at hl 0 rfl) ?_
  refine va_get (D := G.1) (ci := 4) (v := .ref (a 0)) (C := RX4) (T := TX4) (N := 8) hx hb hts i_X4_stills_X4 hown hK.1 hP 0 rfl rfl 5 (by decide) f41 (fun _ h9 => h9) rfl dX4_stills_1 ?_
  refine lv_iload_n hx hb dX4_stills_4 rfl (lv_at hl 1 rfl) ?_
  refine g_rdV (As := [.int s]) (rest := []) (nL := 2) hx hb hml hown hts (c_X0_hasSaying lz G a h s) gX4_stills_X0_hasSaying rfl h_X0_hasSaying ⟨Nat.le_of_ble_eq_true rfl, Nat.le_of_ble_eq_true rfl⟩ hK (hP.sub [1, 2, 3, 4, 5, 6, 7, 8, 9, 10] rfl) (ci := 0) rfl rfl rfl rfl hl.1 rfl (Nat.le_of_ble_eq_true rfl) ⟨Nat.le_refl _, Nat.le_refl _⟩ dX4_stills_5 ?_
  refine lv_if_ne (tgt := 13) hx hb dX4_stills_8 (by decide) (fun c_1 => ?_) (fun c_1 => ?_)
  · skip
    have c_1 := bI_1 c_1
    obtain ⟨hj, hsj⟩ := wIn_nat hn hn8 c_1
    refine lv_aload_n hx hb dX4_stills_13 rfl (lv_at hl 0 rfl) ?_
    refine va_get (D := G.1) (ci := 4) (v := .ref (a 0)) (C := RX4) (T := TX4) (N := 8) hx hb hts i_X4_stills_X4 hown hK.1 hP 0 rfl rfl 5 (by decide) f41 (fun _ h9 => h9) rfl dX4_stills_14 ?_
    refine lv_iload_n hx hb dX4_stills_17 rfl (lv_at hl 1 rfl) ?_
    refine g_top (y := nI s.toNatClampNeg) (hsj) ?_
    refine lv_iconst (v := 0) hx hb dX4_stills_18 (by decide) ?_
    refine g_rdV (As := [.int (nI s.toNatClampNeg), .int 0]) (rest := []) (nL := 2) hx hb hml hown hts (c_X0_strengthAfter lz G a h s.toNatClampNeg 0 (by omega)) gX4_stills_X0_strengthAfter rfl h_X0_strengthAfter ⟨Nat.le_of_ble_eq_true rfl, Nat.le_of_ble_eq_true rfl⟩ hK (hP.sub [1, 2, 3, 4, 5, 6, 7, 8, 9, 10] rfl) (ci := 0) rfl rfl rfl rfl hl.1 rfl (Nat.le_of_ble_eq_true rfl) ⟨Nat.le_refl _, Nat.le_refl _⟩ dX4_stills_19 ?_
    refine lv_if_ne (tgt := 28) hx hb dX4_stills_22 (by decide) (fun c_2 => ?_) (fun c_2 => ?_)
    · skip
      refine lv_aload_n hx hb dX4_stills_28 rfl (lv_at hl 0 rfl) ?_
      refine va_get (D := G.1) (ci := 4) (v := .ref (a 0)) (C := RX4) (T := TX4) (N := 8) hx hb hts i_X4_stills_X4 hown hK.1 hP 0 rfl rfl 5 (by decide) f41 (fun _ h9 => h9) rfl dX4_stills_29 ?_
      refine lv_iconst (v := 0) hx hb dX4_stills_32 (by decide) ?_
      refine g_wrV (As := [.int 0]) (rest := []) (nL := 2) hx hb hml hown hts (c_X0_listen lz G a h n 0 hn hn8) gX4_stills_X0_listen rfl h_X0_listen ⟨Nat.le_of_ble_eq_true rfl, Nat.le_of_ble_eq_true rfl⟩ hK hP hD hS [1, 2, 3, 4, 5, 6, 7, 8, 9, 10] rfl rfl rfl (ws1 := wRi r b f a d tr ++ wHa a G.2.1 (hLis h n 0)) rfl [r 0, a 0, a 1, a 2, a 3, a 4, a 5, a 6, a 7, a 8, a 9] rfl rfl (ci := 0) rfl rfl rfl rfl hl.1 rfl (Nat.le_of_ble_eq_true rfl) ⟨Nat.le_refl _, Nat.le_refl _⟩ dX4_stills_33 (fun H locs hP hD hS => ?_)
      obtain ⟨O, hO8, hO⟩ := hOth_nat (hLis h n 0) n s.toNatClampNeg hn8
      have hOc : (hOth (hLis h n 0) n s.toNatClampNeg).toNatClampNeg = O := by rw [hO]; exact nI_clamp (by omega)
      refine lv_aload_n hx hb dX4_stills_36 rfl (lv_at hl 0 rfl) ?_
      refine va_get (D := G.1) (ci := 4) (v := .ref (a 0)) (C := RX4) (T := TX4) (N := 8) hx hb hts i_X4_stills_X4 hown hK.1 hP 0 rfl rfl 5 (by decide) f41 (fun _ h9 => h9) rfl dX4_stills_37 ?_
      refine lv_iload_n hx hb dX4_stills_40 rfl (lv_at hl 1 rfl) ?_
      refine g_top (y := nI s.toNatClampNeg) (hsj) ?_
      refine g_rdV (As := [.int (nI s.toNatClampNeg)]) (rest := []) (nL := 2) hx hb hml hown hts (c_X0_fewestToHush lz G a (hLis h n 0) n s.toNatClampNeg O (by omega) hn hn8 hO hO8) gX4_stills_X0_fewestToHush rfl h_X0_fewestToHush ⟨Nat.le_of_ble_eq_true rfl, Nat.le_of_ble_eq_true rfl⟩ hK (hP.sub [1, 2, 3, 4, 5, 6, 7, 8, 9, 10] rfl) (ci := 0) rfl rfl rfl rfl hl.1 rfl (Nat.le_of_ble_eq_true rfl) ⟨Nat.le_refl _, Nat.le_refl _⟩ dX4_stills_41 ?_
      have hP : va_P G.1 vwCl (wRi r b f a d tr ++ wHa a G.2.1 (xStS h n s)) H := by
        rw [xStS] <;> (first | done | rw [if_pos c_1] | rw [if_neg c_1] | rw [if_neg (by rw [c_1]; decide)] | skip) <;> (first | done | rw [if_pos c_2] | rw [if_neg c_2] | rw [if_neg (by rw [c_2]; decide)] | skip)
        exact hP
      exact g_wi hx hb hr hlocks hAe hP hS dX4_stills_44 (by rw [xStR] <;> (first | done | rw [if_pos c_1] | rw [if_neg c_1] | rw [if_neg (by rw [c_1]; decide)] | skip) <;> (first | done | rw [if_pos c_2] | rw [if_neg c_2] | rw [if_neg (by rw [c_2]; decide)] | skip) <;> (first | done | (rw [hOc] <;> (first | done | rfl))))
    · skip
      refine lv_bipush (v := (-9)) hx hb dX4_stills_25 (by decide) ?_
      have hP : va_P G.1 vwCl (wRi r b f a d tr ++ wHa a G.2.1 (xStS h n s)) sz.heap := by
        rw [xStS] <;> (first | done | rw [if_pos c_1] | rw [if_neg c_1] | rw [if_neg (by rw [c_1]; decide)] | skip) <;> (first | done | rw [if_pos c_2] | rw [if_neg c_2] | rw [if_neg (by rw [c_2]; decide)] | skip)
        exact hP
      exact g_wi hx hb hr hlocks hAe hP hS dX4_stills_27 (by rw [xStR] <;> (first | done | rw [if_pos c_1] | rw [if_neg c_1] | rw [if_neg (by rw [c_1]; decide)] | skip) <;> (first | done | rw [if_pos c_2] | rw [if_neg c_2] | rw [if_neg (by rw [c_2]; decide)] | skip) <;> (first | done | rfl | (simp only [c_1, c_2]; rfl) | (simp [c_1, c_2, bI]; done)))
  · skip
    have c_1 := bI_0 c_1
    refine lv_iconst (v := (-1)) hx hb dX4_stills_11 (by decide) ?_
    have hP : va_P G.1 vwCl (wRi r b f a d tr ++ wHa a G.2.1 (xStS h n s)) sz.heap := by
      rw [xStS] <;> (first | done | rw [if_pos c_1] | rw [if_neg c_1] | rw [if_neg (by rw [c_1]; decide)] | skip)
      exact hP
    exact g_wi hx hb hr hlocks hAe hP hS dX4_stills_12 (by rw [xStR] <;> (first | done | rw [if_pos c_1] | rw [if_neg c_1] | rw [if_neg (by rw [c_1]; decide)] | skip) <;> (first | done | rfl | (simp only [c_1]; rfl) | (simp [c_1, bI]; done)))
