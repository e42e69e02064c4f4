theorem i_X4_asSaying_X0 : ∀ w ∈ wsX00, w ∈ wsX4_asSaying := by decide +kernel
theorem i_X4_asSaying_X2 : ∀ w ∈ wsX20, w ∈ wsX4_asSaying := by decide +kernel
theorem i_X4_asSaying_X4 : ∀ w ∈ wsX40, w ∈ wsX4_asSaying := by decide +kernel
theorem h_X4_asSaying : yX4_asSaying.cls = RX4 ∧ yX4_asSaying.cls ≠ "java/lang/invoke/MethodHandle" ∧ yX4_asSaying.cls ≠ "java/lang/invoke/VarHandle" ∧ (parseMethodDescriptor yX4_asSaying.desc).map (fun d => d.parameters.length) = some 1 := by decide +kernel
set_option maxHeartbeats 4000000 in
set_option maxRecDepth 100000 in
theorem c_X4_asSaying (lz : Launch) (G : gG) (r b f a d : Nat → Nat) (tr : Int64) (h : HaS) (s : Nat) (hs : s < 8) : gWr lz yX4_asSaying wsX4_asSaying 0 G [.ref (r 0), .int (nI s)] (wRi r b f a d tr ++ wHa a G.2.1 h) (wRi r b f a d (tr + 1) ++ wHa a G.2.1 h) (some (.int (mk0 h s))) := by
  refine g_wr (by decide) rfl (Nat.le_of_ble_eq_true rfl) ?_
  intro pz ez sz mz bz tz cz hx hb hr hml hown hts hlocks hK A hAe hP hD hS ls hl
  have hl : lv_has ls 2 [(0, .ref (r 0)), (1, .int (nI s))] := hl
  have f250 := hts (.fieldLink RX4 250 "WhisperRing" "trace" "J") (by decide +kernel)
  have f41 := hts (.fieldLink RX4 41 "WhisperRing" "hall" "LWhisperRing$Hall;") (by decide +kernel)
  have f68 := hts (.fieldLink RX4 68 "WhisperRing$Hall" "now" "LWhisperRing$Moment;") (by decide +kernel)
  have f81 := hts (.fieldLink RX4 81 "WhisperRing$Moment" "loud" "[I") (by decide +kernel)
  refine lv_aload_n hx hb dX4_asSaying_0 rfl (lv_at hl 0 rfl) ?_
  refine lv_dup hx hb dX4_asSaying_1 rfl ?_
  refine va_get (D := G.1) (ci := 4) (v := .long tr) (C := RX4) (T := TX4) (N := 8) hx hb hts i_X4_asSaying_X4 hown hK.1 hP 0 rfl rfl 7 (by decide) f250 (fun _ h9 => h9) rfl dX4_asSaying_2 ?_
  refine lv_lconst (v := 1) hx hb dX4_asSaying_5 (by decide) ?_
  refine lv_ladd hx hb dX4_asSaying_6 ?_
  refine va_put (D := G.1) (ci := 4) (v := .long (tr + 1)) (ty := .long) (C := RX4) (T := TX4) (N := 8) hx hb hts i_X4_asSaying_X4 tyX4 tyX4_ok nmX4 hown hK.1 hP hD hS 0 rfl rfl 7 (by decide) f250 (fun _ h9 => h9) rfl (by decide +kernel) rfl rfl (Nat.le_of_ble_eq_true rfl) dX4_asSaying_7 (fun H locs hP hD hS => ?_)
  have hP : va_P G.1 vwCl (wRi r b f a d (tr + 1) ++ wHa a G.2.1 h) H := hP
  have hD : va_D A (wRi r b f a d (tr + 1) ++ wHa a G.2.1 h) := hD
  refine lv_aload_n hx hb dX4_asSaying_10 rfl (lv_at hl 0 rfl) ?_
  refine va_get (D := G.1) (ci := 4) (v := .ref (a 0)) (C := RX4) (T := TX4) (N := 8) hx hb hts i_X4_asSaying_X4 hown hK.1 hP 0 rfl rfl 5 (by decide) f41 (fun _ h9 => h9) rfl dX4_asSaying_11 ?_
  refine va_get (D := G.1) (ci := 0) (v := .ref (a 1)) (C := RX0) (T := TX0) (N := 6) hx hb hts i_X4_asSaying_X0 hown hK.1 hP 1 rfl rfl 3 (by decide) f68 (fun _ h9 => h9) rfl dX4_asSaying_14 ?_
  refine va_get (D := G.1) (ci := 2) (v := .ref (a 5)) (C := RX2) (T := TX2) (N := 10) hx hb hts i_X4_asSaying_X2 hown hK.1 hP 2 rfl rfl 7 (by decide) f81 (fun _ h9 => h9) rfl dX4_asSaying_17 ?_
  refine lv_iload_n hx hb dX4_asSaying_20 rfl (lv_at hl 1 rfl) ?_
  refine g_iald hx hb hK.1 hP 6 0 rfl rfl (i := s) (by omega) (by decide) dX4_asSaying_21 ?_
  exact g_wi hx hb hr hlocks hAe hP hS dX4_asSaying_22 rfl

theorem i_X4_asVow_X4 : ∀ w ∈ wsX40, w ∈ wsX4_asVow := by decide +kernel
theorem h_X4_asVow : yX4_asVow.cls = RX4 ∧ yX4_asVow.cls ≠ "java/lang/invoke/MethodHandle" ∧ yX4_asVow.cls ≠ "java/lang/invoke/VarHandle" ∧ (parseMethodDescriptor yX4_asVow.desc).map (fun d => d.parameters.length) = some 1 := by decide +kernel
set_option maxHeartbeats 4000000 in
set_option maxRecDepth 100000 in
theorem c_X4_asVow (lz : Launch) (G : gG) (r b f a d : Nat → Nat) (tr : Int64) (h : HaS) (s : Nat) (hs : s < 8) : gWr lz yX4_asVow wsX4_asVow 3 G [.ref (r 0), .int (nI s)] (wRi r b f a d tr ++ wHa a G.2.1 h) (wRi r b f a d ((tr + 10) + 1) ++ wHa a G.2.1 h) (some (.int (mk1 h s))) := by
  refine g_wr (by decide) rfl (Nat.le_of_ble_eq_true rfl) ?_
  intro pz ez sz mz bz tz cz hx hb hr hml hown hts hlocks hK A hAe hP hD hS ls hl
  have hl : lv_has ls 2 [(0, .ref (r 0)), (1, .int (nI s))] := hl
  have f250 := hts (.fieldLink RX4 250 "WhisperRing" "trace" "J") (by decide +kernel)
  have f41 := hts (.fieldLink RX4 41 "WhisperRing" "hall" "LWhisperRing$Hall;") (by decide +kernel)
  have fk271 := hts (.constantLong RX4 271 10) (by decide +kernel)
  refine lv_aload_n hx hb dX4_asVow_0 rfl (lv_at hl 0 rfl) ?_
  refine lv_dup hx hb dX4_asVow_1 rfl ?_
  refine va_get (D := G.1) (ci := 4) (v := .long tr) (C := RX4) (T := TX4) (N := 8) hx hb hts i_X4_asVow_X4 hown hK.1 hP 0 rfl rfl 7 (by decide) f250 (fun _ h9 => h9) rfl dX4_asVow_2 ?_
  refine lv_ldc2 (v := 10) hx hb hown fk271 dX4_asVow_5 ?_
  refine lv_ladd hx hb dX4_asVow_8 ?_
  refine va_put (D := G.1) (ci := 4) (v := .long (tr + 10)) (ty := .long) (C := RX4) (T := TX4) (N := 8) hx hb hts i_X4_asVow_X4 tyX4 tyX4_ok nmX4 hown hK.1 hP hD hS 0 rfl rfl 7 (by decide) f250 (fun _ h9 => h9) rfl (by decide +kernel) rfl rfl (Nat.le_of_ble_eq_true rfl) dX4_asVow_9 (fun H locs hP hD hS => ?_)
  have hP : va_P G.1 vwCl (wRi r b f a d (tr + 10) ++ wHa a G.2.1 h) H := hP
  have hD : va_D A (wRi r b f a d (tr + 10) ++ wHa a G.2.1 h) := hD
  refine lv_aload_n hx hb dX4_asVow_12 rfl (lv_at hl 0 rfl) ?_
  refine lv_iload_n hx hb dX4_asVow_13 rfl (lv_at hl 1 rfl) ?_
  refine g_wrV (As := [.int (nI s)]) (rest := []) (nL := 2) hx hb hml hown hts (c_X4_asSaying lz G r b f a d (tr + 10) h s (by omega)) gX4_asVow_X4_asSaying rfl h_X4_asSaying ⟨Nat.le_of_ble_eq_true rfl, Nat.le_of_ble_eq_true rfl⟩ hK hP hD hS [0, 1, 2, 3, 4, 5, 6, 7, 8, 9, 10] rfl rfl rfl (ws1 := wRi r b f a d ((tr + 10) + 1) ++ wHa a G.2.1 h) rfl [r 0, a 0, a 1, a 2, a 3, a 4, a 5, a 6, a 7, a 8, a 9] rfl rfl (ci := 4) rfl rfl rfl rfl hl.1 rfl (Nat.le_of_ble_eq_true rfl) ⟨Nat.le_refl _, Nat.le_refl _⟩ dX4_asVow_14 (fun H locs hP hD hS => ?_)
  refine lv_aload_n hx hb dX4_asVow_17 rfl (lv_at hl 0 rfl) ?_
  refine va_get (D := G.1) (ci := 4) (v := .ref (a 0)) (C := RX4) (T := TX4) (N := 8) hx hb hts i_X4_asVow_X4 hown hK.1 hP 0 rfl rfl 5 (by decide) f41 (fun _ h9 => h9) rfl dX4_asVow_18 ?_
  refine lv_iload_n hx hb dX4_asVow_21 rfl (lv_at hl 1 rfl) ?_
  refine lv_iconst (v := 0) hx hb dX4_asVow_22 (by decide) ?_
  refine g_rdV (As := [.int (nI s), .int 0]) (rest := [.int (mk0 h s)]) (nL := 2) hx hb hml hown hts (c_X0_strengthAfter lz G a h s 0 (by omega)) gX4_asVow_X0_strengthAfter rfl h_X0_strengthAfter ⟨Nat.le_of_ble_eq_true rfl, Nat.le_of_ble_eq_true rfl⟩ hK (hP.sub [1, 2, 3, 4, 5, 6, 7, 8, 9, 10] rfl) (ci := 0) rfl rfl rfl rfl hl.1 rfl (Nat.le_of_ble_eq_true rfl) ⟨Nat.le_refl _, Nat.le_refl _⟩ dX4_asVow_23 ?_
  refine lv_iadd hx hb dX4_asVow_26 ?_
  exact g_wi hx hb hr hlocks hAe hP hS dX4_asVow_27 rfl

theorem i_X4_asRumour_X0 : ∀ w ∈ wsX00, w ∈ wsX4_asRumour := by decide +kernel
theorem i_X4_asRumour_X2 : ∀ w ∈ wsX20, w ∈ wsX4_asRumour := by decide +kernel
theorem i_X4_asRumour_X4 : ∀ w ∈ wsX40, w ∈ wsX4_asRumour := by decide +kernel
theorem h_X4_asRumour : yX4_asRumour.cls = RX4 ∧ yX4_asRumour.cls ≠ "java/lang/invoke/MethodHandle" ∧ yX4_asRumour.cls ≠ "java/lang/invoke/VarHandle" ∧ (parseMethodDescriptor yX4_asRumour.desc).map (fun d => d.parameters.length) = some 1 := by decide +kernel
set_option maxHeartbeats 4000000 in
set_option maxRecDepth 100000 in
theorem c_X4_asRumour (lz : Launch) (G : gG) (r b f a d : Nat → Nat) (tr : Int64) (h : HaS) (s : Nat) (hs : s < 8) : gWr lz yX4_asRumour wsX4_asRumour 1 G [.ref (r 0), .int (nI s)] (wRi r b f a d tr ++ wHa a G.2.1 h) (wRi r b f a d ((tr + 100) + 1) ++ wHa a G.2.1 h) (some (.int (mk2 h s))) := by
  refine g_wr (by decide) rfl (Nat.le_of_ble_eq_true rfl) ?_
  intro pz ez sz mz bz tz cz hx hb hr hml hown hts hlocks hK A hAe hP hD hS ls hl
  have hl : lv_has ls 2 [(0, .ref (r 0)), (1, .int (nI s))] := hl
  have f250 := hts (.fieldLink RX4 250 "WhisperRing" "trace" "J") (by decide +kernel)
  have f41 := hts (.fieldLink RX4 41 "WhisperRing" "hall" "LWhisperRing$Hall;") (by decide +kernel)
  have f68 := hts (.fieldLink RX4 68 "WhisperRing$Hall" "now" "LWhisperRing$Moment;") (by decide +kernel)
  have f75 := hts (.fieldLink RX4 75 "WhisperRing$Moment" "speed" "[I") (by decide +kernel)
  have fk273 := hts (.constantLong RX4 273 100) (by decide +kernel)
  refine lv_aload_n hx hb dX4_asRumour_0 rfl (lv_at hl 0 rfl) ?_
  refine lv_dup hx hb dX4_asRumour_1 rfl ?_
  refine va_get (D := G.1) (ci := 4) (v := .long tr) (C := RX4) (T := TX4) (N := 8) hx hb hts i_X4_asRumour_X4 hown hK.1 hP 0 rfl rfl 7 (by decide) f250 (fun _ h9 => h9) rfl dX4_asRumour_2 ?_
  refine lv_ldc2 (v := 100) hx hb hown fk273 dX4_asRumour_5 ?_
  refine lv_ladd hx hb dX4_asRumour_8 ?_
  refine va_put (D := G.1) (ci := 4) (v := .long (tr + 100)) (ty := .long) (C := RX4) (T := TX4) (N := 8) hx hb hts i_X4_asRumour_X4 tyX4 tyX4_ok nmX4 hown hK.1 hP hD hS 0 rfl rfl 7 (by decide) f250 (fun _ h9 => h9) rfl (by decide +kernel) rfl rfl (Nat.le_of_ble_eq_true rfl) dX4_asRumour_9 (fun H locs hP hD hS => ?_)
  have hP : va_P G.1 vwCl (wRi r b f a d (tr + 100) ++ wHa a G.2.1 h) H := hP
  have hD : va_D A (wRi r b f a d (tr + 100) ++ wHa a G.2.1 h) := hD
  refine lv_aload_n hx hb dX4_asRumour_12 rfl (lv_at hl 0 rfl) ?_
  refine lv_iload_n hx hb dX4_asRumour_13 rfl (lv_at hl 1 rfl) ?_
  refine g_wrV (As := [.int (nI s)]) (rest := []) (nL := 2) hx hb hml hown hts (c_X4_asSaying lz G r b f a d (tr + 100) h s (by omega)) gX4_asRumour_X4_asSaying rfl h_X4_asSaying ⟨Nat.le_of_ble_eq_true rfl, Nat.le_of_ble_eq_true rfl⟩ hK hP hD hS [0, 1, 2, 3, 4, 5, 6, 7, 8, 9, 10] rfl rfl rfl (ws1 := wRi r b f a d ((tr + 100) + 1) ++ wHa a G.2.1 h) rfl [r 0, a 0, a 1, a 2, a 3, a 4, a 5, a 6, a 7, a 8, a 9] rfl rfl (ci := 4) rfl rfl rfl rfl hl.1 rfl (Nat.le_of_ble_eq_true rfl) ⟨Nat.le_refl _, Nat.le_refl _⟩ dX4_asRumour_14 (fun H locs hP hD hS => ?_)
  refine lv_aload_n hx hb dX4_asRumour_17 rfl (lv_at hl 0 rfl) ?_
  refine va_get (D := G.1) (ci := 4) (v := .ref (a 0)) (C := RX4) (T := TX4) (N := 8) hx hb hts i_X4_asRumour_X4 hown hK.1 hP 0 rfl rfl 5 (by decide) f41 (fun _ h9 => h9) rfl dX4_asRumour_18 ?_
  refine va_get (D := G.1) (ci := 0) (v := .ref (a 1)) (C := RX0) (T := TX0) (N := 6) hx hb hts i_X4_asRumour_X0 hown hK.1 hP 1 rfl rfl 3 (by decide) f68 (fun _ h9 => h9) rfl dX4_asRumour_21 ?_
  refine va_get (D := G.1) (ci := 2) (v := .ref (a 3)) (C := RX2) (T := TX2) (N := 10) hx hb hts i_X4_asRumour_X2 hown hK.1 hP 2 rfl rfl 5 (by decide) f75 (fun _ h9 => h9) rfl dX4_asRumour_24 ?_
  refine lv_iload_n hx hb dX4_asRumour_27 rfl (lv_at hl 1 rfl) ?_
  refine g_iald hx hb hK.1 hP 4 0 rfl rfl (i := s) (by omega) (by decide) dX4_asRumour_28 ?_
  refine lv_isub hx hb dX4_asRumour_29 ?_
  exact g_wi hx hb hr hlocks hAe hP hS dX4_asRumour_30 rfl

theorem i_X4_asCurse_X4 : ∀ w ∈ wsX40, w ∈ wsX4_asCurse := by decide +kernel
theorem h_X4_asCurse : yX4_asCurse.cls = RX4 ∧ yX4_asCurse.cls ≠ "java/lang/invoke/MethodHandle" ∧ yX4_asCurse.cls ≠ "java/lang/invoke/VarHandle" ∧ (parseMethodDescriptor yX4_asCurse.desc).map (fun d => d.parameters.length) = some 1 := by decide +kernel
set_option maxHeartbeats 4000000 in
set_option maxRecDepth 100000 in
theorem c_X4_asCurse (lz : Launch) (G : gG) (r b f a d : Nat → Nat) (tr : Int64) (h : HaS) (s : Nat) (hs : s < 8) : gWr lz yX4_asCurse wsX4_asCurse 4 G [.ref (r 0), .int (nI s)] (wRi r b f a d tr ++ wHa a G.2.1 h) (wRi r b f a d (((tr + 1000) + 10) + 1) ++ wHa a G.2.1 h) (some (.int (mk3 h s))) := by
  refine g_wr (by decide) rfl (Nat.le_of_ble_eq_true rfl) ?_
  intro pz ez sz mz bz tz cz hx hb hr hml hown hts hlocks hK A hAe hP hD hS ls hl
  have hl : lv_has ls 2 [(0, .ref (r 0)), (1, .int (nI s))] := hl
  have f250 := hts (.fieldLink RX4 250 "WhisperRing" "trace" "J") (by decide +kernel)
  have fk275 := hts (.constantLong RX4 275 1000) (by decide +kernel)
  refine lv_aload_n hx hb dX4_asCurse_0 rfl (lv_at hl 0 rfl) ?_
  refine lv_dup hx hb dX4_asCurse_1 rfl ?_
  refine va_get (D := G.1) (ci := 4) (v := .long tr) (C := RX4) (T := TX4) (N := 8) hx hb hts i_X4_asCurse_X4 hown hK.1 hP 0 rfl rfl 7 (by decide) f250 (fun _ h9 => h9) rfl dX4_asCurse_2 ?_
  refine lv_ldc2 (v := 1000) hx hb hown fk275 dX4_asCurse_5 ?_
  refine lv_ladd hx hb dX4_asCurse_8 ?_
  refine va_put (D := G.1) (ci := 4) (v := .long (tr + 1000)) (ty := .long) (C := RX4) (T := TX4) (N := 8) hx hb hts i_X4_asCurse_X4 tyX4 tyX4_ok nmX4 hown hK.1 hP hD hS 0 rfl rfl 7 (by decide) f250 (fun _ h9 => h9) rfl (by decide +kernel) rfl rfl (Nat.le_of_ble_eq_true rfl) dX4_asCurse_9 (fun H locs hP hD hS => ?_)
  have hP : va_P G.1 vwCl (wRi r b f a d (tr + 1000) ++ wHa a G.2.1 h) H := hP
  have hD : va_D A (wRi r b f a d (tr + 1000) ++ wHa a G.2.1 h) := hD
  refine lv_aload_n hx hb dX4_asCurse_12 rfl (lv_at hl 0 rfl) ?_
  refine lv_iload_n hx hb dX4_asCurse_13 rfl (lv_at hl 1 rfl) ?_
  refine g_wrV (As := [.int (nI s)]) (rest := []) (nL := 2) hx hb hml hown hts (c_X4_asVow lz G r b f a d (tr + 1000) h s (by omega)) gX4_asCurse_X4_asVow rfl h_X4_asVow ⟨Nat.le_of_ble_eq_true rfl, Nat.le_of_ble_eq_true rfl⟩ hK hP hD hS [0, 1, 2, 3, 4, 5, 6, 7, 8, 9, 10] rfl rfl rfl (ws1 := wRi r b f a d (((tr + 1000) + 10) + 1) ++ wHa a G.2.1 h) rfl [r 0, a 0, a 1, a 2, a 3, a 4, a 5, a 6, a 7, a 8, a 9] rfl rfl (ci := 4) rfl rfl rfl rfl hl.1 rfl (Nat.le_of_ble_eq_true rfl) ⟨Nat.le_refl _, Nat.le_refl _⟩ dX4_asCurse_14 (fun H locs hP hD hS => ?_)
  refine lv_iconst (v := 2) hx hb dX4_asCurse_17 (by decide) ?_
  refine lv_imul hx hb dX4_asCurse_18 ?_
  exact g_wi hx hb hr hlocks hAe hP hS dX4_asCurse_19 rfl

theorem i_X4_asLie_X4 : ∀ w ∈ wsX40, w ∈ wsX4_asLie := by decide +kernel
theorem h_X4_asLie : yX4_asLie.cls = RX4 ∧ yX4_asLie.cls ≠ "java/lang/invoke/MethodHandle" ∧ yX4_asLie.cls ≠ "java/lang/invoke/VarHandle" ∧ (parseMethodDescriptor yX4_asLie.desc).map (fun d => d.parameters.length) = some 1 := by decide +kernel
set_option maxHeartbeats 4000000 in
set_option maxRecDepth 100000 in
theorem c_X4_asLie (lz : Launch) (G : gG) (r b f a d : Nat → Nat) (tr : Int64) (h : HaS) (s : Nat) (hs : s < 8) : gWr lz yX4_asLie wsX4_asLie 2 G [.ref (r 0), .int (nI s)] (wRi r b f a d tr ++ wHa a G.2.1 h) (wRi r b f a d (((tr + 10000) + 100) + 1) ++ wHa a G.2.1 h) (some (.int (mk4 h s))) := by
  refine g_wr (by decide) rfl (Nat.le_of_ble_eq_true rfl) ?_
  intro pz ez sz mz bz tz cz hx hb hr hml hown hts hlocks hK A hAe hP hD hS ls hl
  have hl : lv_has ls 2 [(0, .ref (r 0)), (1, .int (nI s))] := hl
  have f250 := hts (.fieldLink RX4 250 "WhisperRing" "trace" "J") (by decide +kernel)
  have fk277 := hts (.constantLong RX4 277 10000) (by decide +kernel)
  refine lv_aload_n hx hb dX4_asLie_0 rfl (lv_at hl 0 rfl) ?_
  refine lv_dup hx hb dX4_asLie_1 rfl ?_
  refine va_get (D := G.1) (ci := 4) (v := .long tr) (C := RX4) (T := TX4) (N := 8) hx hb hts i_X4_asLie_X4 hown hK.1 hP 0 rfl rfl 7 (by decide) f250 (fun _ h9 => h9) rfl dX4_asLie_2 ?_
  refine lv_ldc2 (v := 10000) hx hb hown fk277 dX4_asLie_5 ?_
  refine lv_ladd hx hb dX4_asLie_8 ?_
  refine va_put (D := G.1) (ci := 4) (v := .long (tr + 10000)) (ty := .long) (C := RX4) (T := TX4) (N := 8) hx hb hts i_X4_asLie_X4 tyX4 tyX4_ok nmX4 hown hK.1 hP hD hS 0 rfl rfl 7 (by decide) f250 (fun _ h9 => h9) rfl (by decide +kernel) rfl rfl (Nat.le_of_ble_eq_true rfl) dX4_asLie_9 (fun H locs hP hD hS => ?_)
  have hP : va_P G.1 vwCl (wRi r b f a d (tr + 10000) ++ wHa a G.2.1 h) H := hP
  have hD : va_D A (wRi r b f a d (tr + 10000) ++ wHa a G.2.1 h) := hD
  refine lv_aload_n hx hb dX4_asLie_12 rfl (lv_at hl 0 rfl) ?_
  refine lv_iload_n hx hb dX4_asLie_13 rfl (lv_at hl 1 rfl) ?_
  refine g_wrV (As := [.int (nI s)]) (rest := []) (nL := 2) hx hb hml hown hts (c_X4_asRumour lz G r b f a d (tr + 10000) h s (by omega)) gX4_asLie_X4_asRumour rfl h_X4_asRumour ⟨Nat.le_of_ble_eq_true rfl, Nat.le_of_ble_eq_true rfl⟩ hK hP hD hS [0, 1, 2, 3, 4, 5, 6, 7, 8, 9, 10] rfl rfl rfl (ws1 := wRi r b f a d (((tr + 10000) + 100) + 1) ++ wHa a G.2.1 h) rfl [r 0, a 0, a 1, a 2, a 3, a 4, a 5, a 6, a 7, a 8, a 9] rfl rfl (ci := 4) rfl rfl rfl rfl hl.1 rfl (Nat.le_of_ble_eq_true rfl) ⟨Nat.le_refl _, Nat.le_refl _⟩ dX4_asLie_14 (fun H locs hP hD hS => ?_)
  refine lv_iload_n hx hb dX4_asLie_17 rfl (lv_at hl 1 rfl) ?_
  refine lv_iadd hx hb dX4_asLie_18 ?_
  exact g_wi hx hb hr hlocks hAe hP hS dX4_asLie_19 rfl

theorem i_X4_asHymn_X4 : ∀ w ∈ wsX40, w ∈ wsX4_asHymn := by decide +kernel
theorem h_X4_asHymn : yX4_asHymn.cls = RX4 ∧ yX4_asHymn.cls ≠ "java/lang/invoke/MethodHandle" ∧ yX4_asHymn.cls ≠ "java/lang/invoke/VarHandle" ∧ (parseMethodDescriptor yX4_asHymn.desc).map (fun d => d.parameters.length) = some 1 := by decide +kernel
set_option maxHeartbeats 4000000 in
set_option maxRecDepth 100000 in
theorem c_X4_asHymn (lz : Launch) (G : gG) (r b f a d : Nat → Nat) (tr : Int64) (h : HaS) (s : Nat) (hs : s < 8) : gWr lz yX4_asHymn wsX4_asHymn 3 G [.ref (r 0), .int (nI s)] (wRi r b f a d tr ++ wHa a G.2.1 h) (wRi r b f a d ((tr + 100000) + 1) ++ wHa a G.2.1 h) (some (.int (mk5 h s))) := by
  refine g_wr (by decide) rfl (Nat.le_of_ble_eq_true rfl) ?_
  intro pz ez sz mz bz tz cz hx hb hr hml hown hts hlocks hK A hAe hP hD hS ls hl
  have hl : lv_has ls 2 [(0, .ref (r 0)), (1, .int (nI s))] := hl
  have f250 := hts (.fieldLink RX4 250 "WhisperRing" "trace" "J") (by decide +kernel)
  have f41 := hts (.fieldLink RX4 41 "WhisperRing" "hall" "LWhisperRing$Hall;") (by decide +kernel)
  have fk279 := hts (.constantLong RX4 279 100000) (by decide +kernel)
  refine lv_aload_n hx hb dX4_asHymn_0 rfl (lv_at hl 0 rfl) ?_
  refine lv_dup hx hb dX4_asHymn_1 rfl ?_
  refine va_get (D := G.1) (ci := 4) (v := .long tr) (C := RX4) (T := TX4) (N := 8) hx hb hts i_X4_asHymn_X4 hown hK.1 hP 0 rfl rfl 7 (by decide) f250 (fun _ h9 => h9) rfl dX4_asHymn_2 ?_
  refine lv_ldc2 (v := 100000) hx hb hown fk279 dX4_asHymn_5 ?_
  refine lv_ladd hx hb dX4_asHymn_8 ?_
  refine va_put (D := G.1) (ci := 4) (v := .long (tr + 100000)) (ty := .long) (C := RX4) (T := TX4) (N := 8) hx hb hts i_X4_asHymn_X4 tyX4 tyX4_ok nmX4 hown hK.1 hP hD hS 0 rfl rfl 7 (by decide) f250 (fun _ h9 => h9) rfl (by decide +kernel) rfl rfl (Nat.le_of_ble_eq_true rfl) dX4_asHymn_9 (fun H locs hP hD hS => ?_)
  have hP : va_P G.1 vwCl (wRi r b f a d (tr + 100000) ++ wHa a G.2.1 h) H := hP
  have hD : va_D A (wRi r b f a d (tr + 100000) ++ wHa a G.2.1 h) := hD
  refine lv_aload_n hx hb dX4_asHymn_12 rfl (lv_at hl 0 rfl) ?_
  refine lv_iload_n hx hb dX4_asHymn_13 rfl (lv_at hl 1 rfl) ?_
  refine g_wrV (As := [.int (nI s)]) (rest := []) (nL := 2) hx hb hml hown hts (c_X4_asSaying lz G r b f a d (tr + 100000) h s (by omega)) gX4_asHymn_X4_asSaying rfl h_X4_asSaying ⟨Nat.le_of_ble_eq_true rfl, Nat.le_of_ble_eq_true rfl⟩ hK hP hD hS [0, 1, 2, 3, 4, 5, 6, 7, 8, 9, 10] rfl rfl rfl (ws1 := wRi r b f a d ((tr + 100000) + 1) ++ wHa a G.2.1 h) rfl [r 0, a 0, a 1, a 2, a 3, a 4, a 5, a 6, a 7, a 8, a 9] rfl rfl (ci := 4) rfl rfl rfl rfl hl.1 rfl (Nat.le_of_ble_eq_true rfl) ⟨Nat.le_refl _, Nat.le_refl _⟩ dX4_asHymn_14 (fun H locs hP hD hS => ?_)
  refine lv_aload_n hx hb dX4_asHymn_17 rfl (lv_at hl 0 rfl) ?_
  refine va_get (D := G.1) (ci := 4) (v := .ref (a 0)) (C := RX4) (T := TX4) (N := 8) hx hb hts i_X4_asHymn_X4 hown hK.1 hP 0 rfl rfl 5 (by decide) f41 (fun _ h9 => h9) rfl dX4_asHymn_18 ?_
  refine lv_iload_n hx hb dX4_asHymn_21 rfl (lv_at hl 1 rfl) ?_
  refine lv_iconst (v := 0) hx hb dX4_asHymn_22 (by decide) ?_
  refine g_rdV (As := [.int (nI s), .int 0]) (rest := [.int (mk0 h s)]) (nL := 2) hx hb hml hown hts (c_X0_placeAfter lz G a h s 0 (by omega)) gX4_asHymn_X0_placeAfter rfl h_X0_placeAfter ⟨Nat.le_of_ble_eq_true rfl, Nat.le_of_ble_eq_true rfl⟩ hK (hP.sub [1, 2, 3, 4, 5, 6, 7, 8, 9, 10] rfl) (ci := 0) rfl rfl rfl rfl hl.1 rfl (Nat.le_of_ble_eq_true rfl) ⟨Nat.le_refl _, Nat.le_refl _⟩ dX4_asHymn_23 ?_
  refine lv_iadd hx hb dX4_asHymn_26 ?_
  exact g_wi hx hb hr hlocks hAe hP hS dX4_asHymn_27 rfl

theorem i_X4_mark_X4 : ∀ w ∈ wsX40, w ∈ wsX4_mark := by decide +kernel
theorem h_X4_mark : yX4_mark.cls = RX4 ∧ yX4_mark.cls ≠ "java/lang/invoke/MethodHandle" ∧ yX4_mark.cls ≠ "java/lang/invoke/VarHandle" ∧ (parseMethodDescriptor yX4_mark.desc).map (fun d => d.parameters.length) = some 2 := by decide +kernel
set_option maxHeartbeats 4000000 in
set_option maxRecDepth 100000 in
theorem c_X4_mark (lz : Launch) (G : gG) (r b f a d : Nat → Nat) (tr : Int64) (h : HaS) (n : Nat) (kd s : Int32) (hn : h.mo.sayings = nI n) (hn8 : n ≤ 8) : gWr lz yX4_mark wsX4_mark 5 G [.ref (r 0), .int kd, .int s] (wRi r b f a d tr ++ wHa a G.2.1 h) (wRi r b f a d (xMaT h tr kd s) ++ wHa a G.2.1 h) (some (.int (xMaR h kd s))) := by
  refine g_wr (by decide) rfl (Nat.le_of_ble_eq_true rfl) ?_
  intro pz ez sz mz bz tz cz hx hb hr hml hown hts hlocks hK A hAe hP hD hS ls hl
  have hl : lv_has ls 3 [(0, .ref (r 0)), (1, .int kd), (2, .int s)] := hl
  have f41 := hts (.fieldLink RX4 41 "WhisperRing" "hall" "LWhisperRing$Hall;") (by decide +kernel)
  have fk224 := hts (.constant RX4 224 (-1000000)) (by decide +kernel)
  refine lv_aload_n hx hb dX4_mark_0 rfl (lv_at hl 0 rfl) ?_
  refine va_get (D := G.1) (ci := 4) (v := .ref (a 0)) (C := RX4) (T := TX4) (N := 8) hx hb hts i_X4_mark_X4 hown hK.1 hP 0 rfl rfl 5 (by decide) f41 (fun _ h9 => h9) rfl dX4_mark_1 ?_
  refine lv_iload_n hx hb dX4_mark_4 rfl (lv_at hl 2 rfl) ?_
  refine g_rdV (As := [.int s]) (rest := []) (nL := 3) hx hb hml hown hts (c_X0_hasSaying lz G a h s) gX4_mark_X0_hasSaying rfl h_X0_hasSaying ⟨Nat.le_of_ble_eq_true rfl, Nat.le_of_ble_eq_true rfl⟩ hK (hP.sub [1, 2, 3, 4, 5, 6, 7, 8, 9, 10] rfl) (ci := 0) rfl rfl rfl rfl hl.1 rfl (Nat.le_of_ble_eq_true rfl) ⟨Nat.le_refl _, Nat.le_refl _⟩ dX4_mark_5 ?_
  refine lv_if_ne (tgt := 14) hx hb dX4_mark_8 (by decide) (fun c_1 => ?_) (fun c_1 => ?_)
  · skip
    have c_1 := bI_1 c_1
    obtain ⟨hj, hsj⟩ := wIn_nat hn hn8 c_1
    refine lv_iload_n hx hb dX4_mark_14 rfl (lv_at hl 1 rfl) ?_
    by_cases k_2 : kd = 0
    · refine lv_tableIn (tgt := 52) hx hb dX4_mark_15 (by rw [k_2]; decide) (by rw [k_2]; decide) (by rw [k_2]; rfl) (by decide) ?_
      refine lv_aload_n hx hb dX4_mark_52 rfl (lv_at hl 0 rfl) ?_
      refine lv_iload_n hx hb dX4_mark_53 rfl (lv_at hl 2 rfl) ?_
      refine g_top (y := nI s.toNatClampNeg) (hsj) ?_
      refine g_wrV (As := [.int (nI s.toNatClampNeg)]) (rest := []) (nL := 3) hx hb hml hown hts (c_X4_asSaying lz G r b f a d tr h s.toNatClampNeg (by omega)) gX4_mark_X4_asSaying rfl h_X4_asSaying ⟨Nat.le_of_ble_eq_true rfl, Nat.le_of_ble_eq_true rfl⟩ hK hP hD hS [0, 1, 2, 3, 4, 5, 6, 7, 8, 9, 10] rfl rfl rfl (ws1 := wRi r b f a d (tr + 1) ++ wHa a G.2.1 h) rfl [r 0, a 0, a 1, a 2, a 3, a 4, a 5, a 6, a 7, a 8, a 9] rfl rfl (ci := 4) rfl rfl rfl rfl hl.1 rfl (Nat.le_of_ble_eq_true rfl) ⟨Nat.le_refl _, Nat.le_refl _⟩ dX4_mark_54 (fun H locs hP hD hS => ?_)
      have hP : va_P G.1 vwCl (wRi r b f a d (xMaT h tr kd s) ++ wHa a G.2.1 h) H := by
        rw [xMaT] <;> (first | done | rw [if_pos c_1] | rw [if_neg c_1] | rw [if_neg (by rw [c_1]; decide)] | skip) <;> (first | done | rw [if_pos k_2] | rw [if_neg k_2] | rw [if_neg (by rw [k_2]; decide)] | skip)
        exact hP
      exact g_wi hx hb hr hlocks hAe hP hS dX4_mark_57 (by rw [xMaR] <;> (first | done | rw [if_pos c_1] | rw [if_neg c_1] | rw [if_neg (by rw [c_1]; decide)] | skip) <;> (first | done | rw [if_pos k_2] | rw [if_neg k_2] | rw [if_neg (by rw [k_2]; decide)] | skip) <;> (first | done | rfl | (simp only [c_1, k_2]; rfl) | (simp [c_1, k_2, bI]; done)))
    · skip
      by_cases k_3 : kd = 1
      · refine lv_tableIn (tgt := 58) hx hb dX4_mark_15 (by rw [k_3]; decide) (by rw [k_3]; decide) (by rw [k_3]; rfl) (by decide) ?_
        refine lv_aload_n hx hb dX4_mark_58 rfl (lv_at hl 0 rfl) ?_
        refine lv_iload_n hx hb dX4_mark_59 rfl (lv_at hl 2 rfl) ?_
        refine g_top (y := nI s.toNatClampNeg) (hsj) ?_
        refine g_wrV (As := [.int (nI s.toNatClampNeg)]) (rest := []) (nL := 3) hx hb hml hown hts (c_X4_asVow lz G r b f a d tr h s.toNatClampNeg (by omega)) gX4_mark_X4_asVow rfl h_X4_asVow ⟨Nat.le_of_ble_eq_true rfl, Nat.le_of_ble_eq_true rfl⟩ hK hP hD hS [0, 1, 2, 3, 4, 5, 6, 7, 8, 9, 10] rfl rfl rfl (ws1 := wRi r b f a d ((tr + 10) + 1) ++ wHa a G.2.1 h) rfl [r 0, a 0, a 1, a 2, a 3, a 4, a 5, a 6, a 7, a 8, a 9] rfl rfl (ci := 4) rfl rfl rfl rfl hl.1 rfl (Nat.le_of_ble_eq_true rfl) ⟨Nat.le_refl _, Nat.le_refl _⟩ dX4_mark_60 (fun H locs hP hD hS => ?_)
        have hP : va_P G.1 vwCl (wRi r b f a d (xMaT h tr kd s) ++ wHa a G.2.1 h) H := by
          rw [xMaT] <;> (first | done | rw [if_pos c_1] | rw [if_neg c_1] | rw [if_neg (by rw [c_1]; decide)] | skip) <;> (first | done | rw [if_pos k_2] | rw [if_neg k_2] | rw [if_neg (by rw [k_2]; decide)] | skip) <;> (first | done | rw [if_pos k_3] | rw [if_neg k_3] | rw [if_neg (by rw [k_3]; decide)] | skip)
          exact hP
        exact g_wi hx hb hr hlocks hAe hP hS dX4_mark_63 (by rw [xMaR] <;> (first | done | rw [if_pos c_1] | rw [if_neg c_1] | rw [if_neg (by rw [c_1]; decide)] | skip) <;> (first | done | rw [if_pos k_2] | rw [if_neg k_2] | rw [if_neg (by rw [k_2]; decide)] | skip) <;> (first | done | rw [if_pos k_3] | rw [if_neg k_3] | rw [if_neg (by rw [k_3]; decide)] | skip) <;> (first | done | rfl | (simp only [c_1, k_2, k_3]; rfl) | (simp [c_1, k_2, k_3, bI]; done)))
      · skip
        by_cases k_4 : kd = 2
        · refine lv_tableIn (tgt := 64) hx hb dX4_mark_15 (by rw [k_4]; decide) (by rw [k_4]; decide) (by rw [k_4]; rfl) (by decide) ?_
          refine lv_aload_n hx hb dX4_mark_64 rfl (lv_at hl 0 rfl) ?_
          refine lv_iload_n hx hb dX4_mark_65 rfl (lv_at hl 2 rfl) ?_
          refine g_top (y := nI s.toNatClampNeg) (hsj) ?_
          refine g_wrV (As := [.int (nI s.toNatClampNeg)]) (rest := []) (nL := 3) hx hb hml hown hts (c_X4_asRumour lz G r b f a d tr h s.toNatClampNeg (by omega)) gX4_mark_X4_asRumour rfl h_X4_asRumour ⟨Nat.le_of_ble_eq_true rfl, Nat.le_of_ble_eq_true rfl⟩ hK hP hD hS [0, 1, 2, 3, 4, 5, 6, 7, 8, 9, 10] rfl rfl rfl (ws1 := wRi r b f a d ((tr + 100) + 1) ++ wHa a G.2.1 h) rfl [r 0, a 0, a 1, a 2, a 3, a 4, a 5, a 6, a 7, a 8, a 9] rfl rfl (ci := 4) rfl rfl rfl rfl hl.1 rfl (Nat.le_of_ble_eq_true rfl) ⟨Nat.le_refl _, Nat.le_refl _⟩ dX4_mark_66 (fun H locs hP hD hS => ?_)
          have hP : va_P G.1 vwCl (wRi r b f a d (xMaT h tr kd s) ++ wHa a G.2.1 h) H := by
            rw [xMaT] <;> (first | done | rw [if_pos c_1] | rw [if_neg c_1] | rw [if_neg (by rw [c_1]; decide)] | skip) <;> (first | done | rw [if_pos k_2] | rw [if_neg k_2] | rw [if_neg (by rw [k_2]; decide)] | skip) <;> (first | done | rw [if_pos k_3] | rw [if_neg k_3] | rw [if_neg (by rw [k_3]; decide)] | skip) <;> (first | done | rw [if_pos k_4] | rw [if_neg k_4] | rw [if_neg (by rw [k_4]; decide)] | skip)
            exact hP
          exact g_wi hx hb hr hlocks hAe hP hS dX4_mark_69 (by rw [xMaR] <;> (first | done | rw [if_pos c_1] | rw [if_neg c_1] | rw [if_neg (by rw [c_1]; decide)] | skip) <;> (first | done | rw [if_pos k_2] | rw [if_neg k_2] | rw [if_neg (by rw [k_2]; decide)] | skip) <;> (first | done | rw [if_pos k_3] | rw [if_neg k_3] | rw [if_neg (by rw [k_3]; decide)] | skip) <;> (first | done | rw [if_pos k_4] | rw [if_neg k_4] | rw [if_neg (by rw [k_4]; decide)] | skip) <;> (first | done | rfl | (simp only [c_1, k_2, k_3, k_4]; rfl) | (simp [c_1, k_2, k_3, k_4, bI]; done)))
        · skip
          by_cases k_5 : kd = 3
          · refine lv_tableIn (tgt := 70) hx hb dX4_mark_15 (by rw [k_5]; decide) (by rw [k_5]; decide) (by rw [k_5]; rfl) (by decide) ?_
            refine lv_aload_n hx hb dX4_mark_70 rfl (lv_at hl 0 rfl) ?_
            refine lv_iload_n hx hb dX4_mark_71 rfl (lv_at hl 2 rfl) ?_
            refine g_top (y := nI s.toNatClampNeg) (hsj) ?_
            refine g_wrV (As := [.int (nI s.toNatClampNeg)]) (rest := []) (nL := 3) hx hb hml hown hts (c_X4_asCurse lz G r b f a d tr h s.toNatClampNeg (by omega)) gX4_mark_X4_asCurse rfl h_X4_asCurse ⟨Nat.le_of_ble_eq_true rfl, Nat.le_of_ble_eq_true rfl⟩ hK hP hD hS [0, 1, 2, 3, 4, 5, 6, 7, 8, 9, 10] rfl rfl rfl (ws1 := wRi r b f a d (((tr + 1000) + 10) + 1) ++ wHa a G.2.1 h) rfl [r 0, a 0, a 1, a 2, a 3, a 4, a 5, a 6, a 7, a 8, a 9] rfl rfl (ci := 4) rfl rfl rfl rfl hl.1 rfl (Nat.le_of_ble_eq_true rfl) ⟨Nat.le_refl _, Nat.le_refl _⟩ dX4_mark_72 (fun H locs hP hD hS => ?_)
            have hP : va_P G.1 vwCl (wRi r b f a d (xMaT h tr kd s) ++ wHa a G.2.1 h) H := by
              rw [xMaT] <;> (first | done | rw [if_pos c_1] | rw [if_neg c_1] | rw [if_neg (by rw [c_1]; decide)] | skip) <;> (first | done | rw [if_pos k_2] | rw [if_neg k_2] | rw [if_neg (by rw [k_2]; decide)] | skip) <;> (first | done | rw [if_pos k_3] | rw [if_neg k_3] | rw [if_neg (by rw [k_3]; decide)] | skip) <;> (first | done | rw [if_pos k_4] | rw [if_neg k_4] | rw [if_neg (by rw [k_4]; decide)] | skip) <;> (first | done | rw [if_pos k_5] | rw [if_neg k_5] | rw [if_neg (by rw [k_5]; decide)] | skip)
              exact hP
            exact g_wi hx hb hr hlocks hAe hP hS dX4_mark_75 (by rw [xMaR] <;> (first | done | rw [if_pos c_1] | rw [if_neg c_1] | rw [if_neg (by rw [c_1]; decide)] | skip) <;> (first | done | rw [if_pos k_2] | rw [if_neg k_2] | rw [if_neg (by rw [k_2]; decide)] | skip) <;> (first | done | rw [if_pos k_3] | rw [if_neg k_3] | rw [if_neg (by rw [k_3]; decide)] | skip) <;> (first | done | rw [if_pos k_4] | rw [if_neg k_4] | rw [if_neg (by rw [k_4]; decide)] | skip) <;> (first | done | rw [if_pos k_5] | rw [if_neg k_5] | rw [if_neg (by rw [k_5]; decide)] | skip) <;> (first | done | rfl | (simp only [c_1, k_2, k_3, k_4, k_5]; rfl) | (simp [c_1, k_2, k_3, k_4, k_5, bI]; done)))
          · skip
            by_cases k_6 : kd = 4
            · refine lv_tableIn (tgt := 76) hx hb dX4_mark_15 (by rw [k_6]; decide) (by rw [k_6]; decide) (by rw [k_6]; rfl) (by decide) ?_
              refine lv_aload_n hx hb dX4_mark_76 rfl (lv_at hl 0 rfl) ?_
              refine lv_iload_n hx hb dX4_mark_77 rfl (lv_at hl 2 rfl) ?_
              refine g_top (y := nI s.toNatClampNeg) (hsj) ?_
              refine g_wrV (As := [.int (nI s.toNatClampNeg)]) (rest := []) (nL := 3) hx hb hml hown hts (c_X4_asLie lz G r b f a d tr h s.toNatClampNeg (by omega)) gX4_mark_X4_asLie rfl h_X4_asLie ⟨Nat.le_of_ble_eq_true rfl, Nat.le_of_ble_eq_true rfl⟩ hK hP hD hS [0, 1, 2, 3, 4, 5, 6, 7, 8, 9, 10] rfl rfl rfl (ws1 := wRi r b f a d (((tr + 10000) + 100) + 1) ++ wHa a G.2.1 h) rfl [r 0, a 0, a 1, a 2, a 3, a 4, a 5, a 6, a 7, a 8, a 9] rfl rfl (ci := 4) rfl rfl rfl rfl hl.1 rfl (Nat.le_of_ble_eq_true rfl) ⟨Nat.le_refl _, Nat.le_refl _⟩ dX4_mark_78 (fun H locs hP hD hS => ?_)
              have hP : va_P G.1 vwCl (wRi r b f a d (xMaT h tr kd s) ++ wHa a G.2.1 h) H := by
                rw [xMaT] <;> (first | done | rw [if_pos c_1] | rw [if_neg c_1] | rw [if_neg (by rw [c_1]; decide)] | skip) <;> (first | done | rw [if_pos k_2] | rw [if_neg k_2] | rw [if_neg (by rw [k_2]; decide)] | skip) <;> (first | done | rw [if_pos k_3] | rw [if_neg k_3] | rw [if_neg (by rw [k_3]; decide)] | skip) <;> (first | done | rw [if_pos k_4] | rw [if_neg k_4] | rw [if_neg (by rw [k_4]; decide)] | skip) <;> (first | done | rw [if_pos k_5] | rw [if_neg k_5] | rw [if_neg (by rw [k_5]; decide)] | skip) <;> (first | done | rw [if_pos k_6] | rw [if_neg k_6] | rw [if_neg (by rw [k_6]; decide)] | skip)
                exact hP
              exact g_wi hx hb hr hlocks hAe hP hS dX4_mark_81 (by rw [xMaR] <;> (first | done | rw [if_pos c_1] | rw [if_neg c_1] | rw [if_neg (by rw [c_1]; decide)] | skip) <;> (first | done | rw [if_pos k_2] | rw [if_neg k_2] | rw [if_neg (by rw [k_2]; decide)] | skip) <;> (first | done | rw [if_pos k_3] | rw [if_neg k_3] | rw [if_neg (by rw [k_3]; decide)] | skip) <;> (first | done | rw [if_pos k_4] | rw [if_neg k_4] | rw [if_neg (by rw [k_4]; decide)] | skip) <;> (first | done | rw [if_pos k_5] | rw [if_neg k_5] | rw [if_neg (by rw [k_5]; decide)] | skip) <;> (first | done | rw [if_pos k_6] | rw [if_neg k_6] | rw [if_neg (by rw [k_6]; decide)] | skip) <;> (first | done | rfl | (simp only [c_1, k_2, k_3, k_4, k_5, k_6]; rfl) | (simp [c_1, k_2, k_3, k_4, k_5, k_6, bI]; done)))
            · skip
              by_cases k_7 : kd = 5
              · refine lv_tableIn (tgt := 82) hx hb dX4_mark_15 (by rw [k_7]; decide) (by rw [k_7]; decide) (by rw [k_7]; rfl) (by decide) ?_
                refine lv_aload_n hx hb dX4_mark_82 rfl (lv_at hl 0 rfl) ?_
                refine lv_iload_n hx hb dX4_mark_83 rfl (lv_at hl 2 rfl) ?_
                refine g_top (y := nI s.toNatClampNeg) (hsj) ?_
                refine g_wrV (As := [.int (nI s.toNatClampNeg)]) (rest := []) (nL := 3) hx hb hml hown hts (c_X4_asHymn lz G r b f a d tr h s.toNatClampNeg (by omega)) gX4_mark_X4_asHymn rfl h_X4_asHymn ⟨Nat.le_of_ble_eq_true rfl, Nat.le_of_ble_eq_true rfl⟩ hK hP hD hS [0, 1, 2, 3, 4, 5, 6, 7, 8, 9, 10] rfl rfl rfl (ws1 := wRi r b f a d ((tr + 100000) + 1) ++ wHa a G.2.1 h) rfl [r 0, a 0, a 1, a 2, a 3, a 4, a 5, a 6, a 7, a 8, a 9] rfl rfl (ci := 4) rfl rfl rfl rfl hl.1 rfl (Nat.le_of_ble_eq_true rfl) ⟨Nat.le_refl _, Nat.le_refl _⟩ dX4_mark_84 (fun H locs hP hD hS => ?_)
                have hP : va_P G.1 vwCl (wRi r b f a d (xMaT h tr kd s) ++ wHa a G.2.1 h) H := by
                  rw [xMaT] <;> (first | done | rw [if_pos c_1] | rw [if_neg c_1] | rw [if_neg (by rw [c_1]; decide)] | skip) <;> (first | done | rw [if_pos k_2] | rw [if_neg k_2] | rw [if_neg (by rw [k_2]; decide)] | skip) <;> (first | done | rw [if_pos k_3] | rw [if_neg k_3] | rw [if_neg (by rw [k_3]; decide)] | skip) <;> (first | done | rw [if_pos k_4] | rw [if_neg k_4] | rw [if_neg (by rw [k_4]; decide)] | skip) <;> (first | done | rw [if_pos k_5] | rw [if_neg k_5] | rw [if_neg (by rw [k_5]; decide)] | skip) <;> (first | done | rw [if_pos k_6] | rw [if_neg k_6] | rw [if_neg (by rw [k_6]; decide)] | skip) <;> (first | done | rw [if_pos k_7] | rw [if_neg k_7] | rw [if_neg (by rw [k_7]; decide)] | skip)
                  exact hP
                exact g_wi hx hb hr hlocks hAe hP hS dX4_mark_87 (by rw [xMaR] <;> (first | done | rw [if_pos c_1] | rw [if_neg c_1] | rw [if_neg (by rw [c_1]; decide)] | skip) <;> (first | done | rw [if_pos k_2] | rw [if_neg k_2] | rw [if_neg (by rw [k_2]; decide)] | skip) <;> (first | done | rw [if_pos k_3] | rw [if_neg k_3] | rw [if_neg (by rw [k_3]; decide)] | skip) <;> (first | done | rw [if_pos k_4] | rw [if_neg k_4] | rw [if_neg (by rw [k_4]; decide)] | skip) <;> (first | done | rw [if_pos k_5] | rw [if_neg k_5] | rw [if_neg (by rw [k_5]; decide)] | skip) <;> (first | done | rw [if_pos k_6] | rw [if_neg k_6] | rw [if_neg (by rw [k_6]; decide)] | skip) <;> (first | done | rw [if_pos k_7] | rw [if_neg k_7] | rw [if_neg (by rw [k_7]; decide)] | skip) <;> (first | done | rfl | (simp only [c_1, k_2, k_3, k_4, k_5, k_6, k_7]; rfl) | (simp [c_1, k_2, k_3, k_4, k_5, k_6, k_7, bI]; done)))
              · skip
                refine lv_tableOut (tgt := 88) hx hb dX4_mark_15 (by have n0 := lv_neT k_2 (a := 0) (by decide); have n1 := lv_neT k_3 (a := 1) (by decide); have n2 := lv_neT k_4 (a := 2) (by decide); have n3 := lv_neT k_5 (a := 3) (by decide); have n4 := lv_neT k_6 (a := 4) (by decide); have n5 := lv_neT k_7 (a := 5) (by decide); omega) (by decide) ?_
                refine lv_ldc (v := (-1000000)) hx hb hown fk224 dX4_mark_88 ?_
                have hP : va_P G.1 vwCl (wRi r b f a d (xMaT h tr kd s) ++ wHa a G.2.1 h) sz.heap := by
                  rw [xMaT] <;> (first | done | rw [if_pos c_1] | rw [if_neg c_1] | rw [if_neg (by rw [c_1]; decide)] | skip) <;> (first | done | rw [if_pos k_2] | rw [if_neg k_2] | rw [if_neg (by rw [k_2]; decide)] | skip) <;> (first | done | rw [if_pos k_3] | rw [if_neg k_3] | rw [if_neg (by rw [k_3]; decide)] | skip) <;> (first | done | rw [if_pos k_4] | rw [if_neg k_4] | rw [if_neg (by rw [k_4]; decide)] | skip) <;> (first | done | rw [if_pos k_5] | rw [if_neg k_5] | rw [if_neg (by rw [k_5]; decide)] | skip) <;> (first | done | rw [if_pos k_6] | rw [if_neg k_6] | rw [if_neg (by rw [k_6]; decide)] | skip) <;> (first | done | rw [if_pos k_7] | rw [if_neg k_7] | rw [if_neg (by rw [k_7]; decide)] | skip)
                  exact hP
                exact g_wi hx hb hr hlocks hAe hP hS dX4_mark_90 (by rw [xMaR] <;> (first | done | rw [if_pos c_1] | rw [if_neg c_1] | rw [if_neg (by rw [c_1]; decide)] | skip) <;> (first | done | rw [if_pos k_2] | rw [if_neg k_2] | rw [if_neg (by rw [k_2]; decide)] | skip) <;> (first | done | rw [if_pos k_3] | rw [if_neg k_3] | rw [if_neg (by rw [k_3]; decide)] | skip) <;> (first | done | rw [if_pos k_4] | rw [if_neg k_4] | rw [if_neg (by rw [k_4]; decide)] | skip) <;> (first | done | rw [if_pos k_5] | rw [if_neg k_5] | rw [if_neg (by rw [k_5]; decide)] | skip) <;> (first | done | rw [if_pos k_6] | rw [if_neg k_6] | rw [if_neg (by rw [k_6]; decide)] | skip) <;> (first | done | rw [if_pos k_7] | rw [if_neg k_7] | rw [if_neg (by rw [k_7]; decide)] | skip) <;> (first | done | rfl | (simp only [c_1, k_2, k_3, k_4, k_5, k_6, k_7]; rfl) | (simp [c_1, k_2, k_3, k_4, k_5, k_6, k_7, bI]; done)))
  · skip
    have c_1 := bI_0 c_1
    refine lv_ldc (v := (-1000000)) hx hb hown fk224 dX4_mark_11 ?_
    have hP : va_P G.1 vwCl (wRi r b f a d (xMaT h tr kd s) ++ wHa a G.2.1 h) sz.heap := by
      rw [xMaT] <;> (first | done | rw [if_pos c_1] | rw [if_neg c_1] | rw [if_neg (by rw [c_1]; decide)] | skip)
      exact hP
    exact g_wi hx hb hr hlocks hAe hP hS dX4_mark_13 (by rw [xMaR] <;> (first | done | rw [if_pos c_1] | rw [if_neg c_1] | rw [if_neg (by rw [c_1]; decide)] | skip) <;> (first | done | rfl | (simp only [c_1]; rfl) | (simp [c_1, bI]; done)))

theorem i_X4_count_X0 : ∀ w ∈ wsX00, w ∈ wsX4_count := by decide +kernel
theorem i_X4_count_X1 : ∀ w ∈ wsX10, w ∈ wsX4_count := by decide +kernel
theorem i_X4_count_X2 : ∀ w ∈ wsX20, w ∈ wsX4_count := by decide +kernel
theorem i_X4_count_X3 : ∀ w ∈ wsX30, w ∈ wsX4_count := by decide +kernel
theorem i_X4_count_X4 : ∀ w ∈ wsX40, w ∈ wsX4_count := by decide +kernel
theorem h_X4_count : yX4_count.cls = RX4 ∧ yX4_count.cls ≠ "java/lang/invoke/MethodHandle" ∧ yX4_count.cls ≠ "java/lang/invoke/VarHandle" ∧ (parseMethodDescriptor yX4_count.desc).map (fun d => d.parameters.length) = some 1 := by decide +kernel
set_option maxHeartbeats 4000000 in
set_option maxRecDepth 100000 in
theorem c_X4_count (lz : Launch) (G : gG) (r b f a d : Nat → Nat) (tr : Int64) (sc : ScS) (u : HeS) (h : HaS) (what : Int32) : gRd lz yX4_count wsX4_count 1 G [.ref (r 0), .int what] (wRi r b f a d tr ++ wSc b G.2.1 sc ++ wHe f G.2.1 u ++ wHa a G.2.1 h) (xCoR sc u h what) := by
  refine g_rd (by decide) rfl (Nat.le_of_ble_eq_true rfl) ?_
  intro pz ez sz mz bz tz cz hx hb hr hml hown hts hlocks hP hK ls hl
  have hl : lv_has ls 2 [(0, .ref (r 0)), (1, .int what)] := hl
  have f12 := hts (.fieldLink RX4 12 "WhisperRing" "script" "LWhisperRing$Script;") (by decide +kernel)
  have f151 := hts (.fieldLink RX4 151 "WhisperRing$Moment" "sayings" "I") (by decide +kernel)
  have f161 := hts (.fieldLink RX4 161 "WhisperRing$Moment" "noted" "I") (by decide +kernel)
  have f19 := hts (.fieldLink RX4 19 "WhisperRing" "hearsay" "LWhisperRing$Hearsay;") (by decide +kernel)
  have f196 := hts (.fieldLink RX4 196 "WhisperRing$Hall" "loss" "I") (by decide +kernel)
  have f216 := hts (.fieldLink RX4 216 "WhisperRing$Hall" "places" "I") (by decide +kernel)
  have f247 := hts (.fieldLink RX4 247 "WhisperRing$Hall" "niches" "I") (by decide +kernel)
  have f41 := hts (.fieldLink RX4 41 "WhisperRing" "hall" "LWhisperRing$Hall;") (by decide +kernel)
  have f56 := hts (.fieldLink RX4 56 "WhisperRing$Script" "size" "I") (by decide +kernel)
  have f64 := hts (.fieldLink RX4 64 "WhisperRing$Hearsay" "size" "I") (by decide +kernel)
  have f68 := hts (.fieldLink RX4 68 "WhisperRing$Hall" "now" "LWhisperRing$Moment;") (by decide +kernel)
  refine lv_iload_n hx hb dX4_count_0 rfl (lv_at hl 1 rfl) ?_
  by_cases k_1 : what = 0
  · refine lv_tableIn (tgt := 44) hx hb dX4_count_1 (by rw [k_1]; decide) (by rw [k_1]; decide) (by rw [k_1]; rfl) (by decide) ?_
    refine lv_aload_n hx hb dX4_count_44 rfl (lv_at hl 0 rfl) ?_
    refine va_get (D := G.1) (ci := 4) (v := .ref (a 0)) (C := RX4) (T := TX4) (N := 8) hx hb hts i_X4_count_X4 hown hK.1 hP 0 rfl rfl 5 (by decide) f41 (fun _ h9 => h9) rfl dX4_count_45 ?_
    refine va_get (D := G.1) (ci := 0) (v := .int h.pl) (C := RX0) (T := TX0) (N := 6) hx hb hts i_X4_count_X0 hown hK.1 hP 7 rfl rfl 0 (by decide) f216 (fun _ h9 => h9) rfl dX4_count_48 ?_
    exact g_ri hx hb hr hlocks dX4_count_51 (by rw [xCoR] <;> (first | done | rw [if_pos k_1] | rw [if_neg k_1] | rw [if_neg (by rw [k_1]; decide)] | skip) <;> (first | done | rfl | (simp only [k_1]; rfl) | (simp [k_1, bI]; done)))
  · skip
    by_cases k_2 : what = 1
    · refine lv_tableIn (tgt := 52) hx hb dX4_count_1 (by rw [k_2]; decide) (by rw [k_2]; decide) (by rw [k_2]; rfl) (by decide) ?_
      refine lv_aload_n hx hb dX4_count_52 rfl (lv_at hl 0 rfl) ?_
      refine va_get (D := G.1) (ci := 4) (v := .ref (a 0)) (C := RX4) (T := TX4) (N := 8) hx hb hts i_X4_count_X4 hown hK.1 hP 0 rfl rfl 5 (by decide) f41 (fun _ h9 => h9) rfl dX4_count_53 ?_
      refine va_get (D := G.1) (ci := 0) (v := .ref (a 1)) (C := RX0) (T := TX0) (N := 6) hx hb hts i_X4_count_X0 hown hK.1 hP 7 rfl rfl 3 (by decide) f68 (fun _ h9 => h9) rfl dX4_count_56 ?_
      refine va_get (D := G.1) (ci := 2) (v := .int h.mo.sayings) (C := RX2) (T := TX2) (N := 10) hx hb hts i_X4_count_X2 hown hK.1 hP 8 rfl rfl 1 (by decide) f151 (fun _ h9 => h9) rfl dX4_count_59 ?_
      exact g_ri hx hb hr hlocks dX4_count_62 (by rw [xCoR] <;> (first | done | rw [if_pos k_1] | rw [if_neg k_1] | rw [if_neg (by rw [k_1]; decide)] | skip) <;> (first | done | rw [if_pos k_2] | rw [if_neg k_2] | rw [if_neg (by rw [k_2]; decide)] | skip) <;> (first | done | rfl | (simp only [k_1, k_2]; rfl) | (simp [k_1, k_2, bI]; done)))
    · skip
      by_cases k_3 : what = 2
      · refine lv_tableIn (tgt := 63) hx hb dX4_count_1 (by rw [k_3]; decide) (by rw [k_3]; decide) (by rw [k_3]; rfl) (by decide) ?_
        refine lv_aload_n hx hb dX4_count_63 rfl (lv_at hl 0 rfl) ?_
        refine va_get (D := G.1) (ci := 4) (v := .ref (a 0)) (C := RX4) (T := TX4) (N := 8) hx hb hts i_X4_count_X4 hown hK.1 hP 0 rfl rfl 5 (by decide) f41 (fun _ h9 => h9) rfl dX4_count_64 ?_
        refine va_get (D := G.1) (ci := 0) (v := .int h.loss) (C := RX0) (T := TX0) (N := 6) hx hb hts i_X4_count_X0 hown hK.1 hP 7 rfl rfl 1 (by decide) f196 (fun _ h9 => h9) rfl dX4_count_67 ?_
        exact g_ri hx hb hr hlocks dX4_count_70 (by rw [xCoR] <;> (first | done | rw [if_pos k_1] | rw [if_neg k_1] | rw [if_neg (by rw [k_1]; decide)] | skip) <;> (first | done | rw [if_pos k_2] | rw [if_neg k_2] | rw [if_neg (by rw [k_2]; decide)] | skip) <;> (first | done | rw [if_pos k_3] | rw [if_neg k_3] | rw [if_neg (by rw [k_3]; decide)] | skip) <;> (first | done | rfl | (simp only [k_1, k_2, k_3]; rfl) | (simp [k_1, k_2, k_3, bI]; done)))
      · skip
        by_cases k_4 : what = 3
        · refine lv_tableIn (tgt := 71) hx hb dX4_count_1 (by rw [k_4]; decide) (by rw [k_4]; decide) (by rw [k_4]; rfl) (by decide) ?_
          refine lv_aload_n hx hb dX4_count_71 rfl (lv_at hl 0 rfl) ?_
          refine va_get (D := G.1) (ci := 4) (v := .ref (a 0)) (C := RX4) (T := TX4) (N := 8) hx hb hts i_X4_count_X4 hown hK.1 hP 0 rfl rfl 5 (by decide) f41 (fun _ h9 => h9) rfl dX4_count_72 ?_
          refine va_get (D := G.1) (ci := 0) (v := .int h.nich) (C := RX0) (T := TX0) (N := 6) hx hb hts i_X4_count_X0 hown hK.1 hP 7 rfl rfl 2 (by decide) f247 (fun _ h9 => h9) rfl dX4_count_75 ?_
          refine g_rdS (As := [.int h.nich]) (rest := []) (nL := 2) hx hb hml hown hts (c_J6_bitCount_0f7a4 lz G h.nich) gX4_count_J6_bitCount_0f7a4 rfl h_J6_bitCount_0f7a4 ⟨Nat.le_of_ble_eq_true rfl, Nat.le_of_ble_eq_true rfl⟩ hK gP_nil rfl hl.1 rfl (Nat.le_of_ble_eq_true rfl) ⟨Nat.le_refl _, Nat.le_refl _⟩ dX4_count_78 ?_
          exact g_ri hx hb hr hlocks dX4_count_81 (by rw [xCoR] <;> (first | done | rw [if_pos k_1] | rw [if_neg k_1] | rw [if_neg (by rw [k_1]; decide)] | skip) <;> (first | done | rw [if_pos k_2] | rw [if_neg k_2] | rw [if_neg (by rw [k_2]; decide)] | skip) <;> (first | done | rw [if_pos k_3] | rw [if_neg k_3] | rw [if_neg (by rw [k_3]; decide)] | skip) <;> (first | done | rw [if_pos k_4] | rw [if_neg k_4] | rw [if_neg (by rw [k_4]; decide)] | skip) <;> (first | done | rfl | (simp only [k_1, k_2, k_3, k_4]; rfl) | (simp [k_1, k_2, k_3, k_4, bI]; done)))
        · skip
          by_cases k_5 : what = 4
          · refine lv_tableIn (tgt := 82) hx hb dX4_count_1 (by rw [k_5]; decide) (by rw [k_5]; decide) (by rw [k_5]; rfl) (by decide) ?_
            refine lv_aload_n hx hb dX4_count_82 rfl (lv_at hl 0 rfl) ?_
            refine va_get (D := G.1) (ci := 4) (v := .ref (f 0)) (C := RX4) (T := TX4) (N := 8) hx hb hts i_X4_count_X4 hown hK.1 hP 0 rfl rfl 1 (by decide) f19 (fun _ h9 => h9) rfl dX4_count_83 ?_
            refine va_get (D := G.1) (ci := 1) (v := .int u.size) (C := RX1) (T := TX1) (N := 4) hx hb hts i_X4_count_X1 hown hK.1 hP 3 rfl rfl 0 (by decide) f64 (fun _ h9 => h9) rfl dX4_count_86 ?_
            exact g_ri hx hb hr hlocks dX4_count_89 (by rw [xCoR] <;> (first | done | rw [if_pos k_1] | rw [if_neg k_1] | rw [if_neg (by rw [k_1]; decide)] | skip) <;> (first | done | rw [if_pos k_2] | rw [if_neg k_2] | rw [if_neg (by rw [k_2]; decide)] | skip) <;> (first | done | rw [if_pos k_3] | rw [if_neg k_3] | rw [if_neg (by rw [k_3]; decide)] | skip) <;> (first | done | rw [if_pos k_4] | rw [if_neg k_4] | rw [if_neg (by rw [k_4]; decide)] | skip) <;> (first | done | rw [if_pos k_5] | rw [if_neg k_5] | rw [if_neg (by rw [k_5]; decide)] | skip) <;> (first | done | rfl | (simp only [k_1, k_2, k_3, k_4, k_5]; rfl) | (simp [k_1, k_2, k_3, k_4, k_5, bI]; done)))
          · skip
            by_cases k_6 : what = 5
            · refine lv_tableIn (tgt := 90) hx hb dX4_count_1 (by rw [k_6]; decide) (by rw [k_6]; decide) (by rw [k_6]; rfl) (by decide) ?_
              refine lv_aload_n hx hb dX4_count_90 rfl (lv_at hl 0 rfl) ?_
              refine va_get (D := G.1) (ci := 4) (v := .ref (a 0)) (C := RX4) (T := TX4) (N := 8) hx hb hts i_X4_count_X4 hown hK.1 hP 0 rfl rfl 5 (by decide) f41 (fun _ h9 => h9) rfl dX4_count_91 ?_
              refine va_get (D := G.1) (ci := 0) (v := .ref (a 1)) (C := RX0) (T := TX0) (N := 6) hx hb hts i_X4_count_X0 hown hK.1 hP 7 rfl rfl 3 (by decide) f68 (fun _ h9 => h9) rfl dX4_count_94 ?_
              refine va_get (D := G.1) (ci := 2) (v := .int h.mo.noted) (C := RX2) (T := TX2) (N := 10) hx hb hts i_X4_count_X2 hown hK.1 hP 8 rfl rfl 3 (by decide) f161 (fun _ h9 => h9) rfl dX4_count_97 ?_
              exact g_ri hx hb hr hlocks dX4_count_100 (by rw [xCoR] <;> (first | done | rw [if_pos k_1] | rw [if_neg k_1] | rw [if_neg (by rw [k_1]; decide)] | skip) <;> (first | done | rw [if_pos k_2] | rw [if_neg k_2] | rw [if_neg (by rw [k_2]; decide)] | skip) <;> (first | done | rw [if_pos k_3] | rw [if_neg k_3] | rw [if_neg (by rw [k_3]; decide)] | skip) <;> (first | done | rw [if_pos k_4] | rw [if_neg k_4] | rw [if_neg (by rw [k_4]; decide)] | skip) <;> (first | done | rw [if_pos k_5] | rw [if_neg k_5] | rw [if_neg (by rw [k_5]; decide)] | skip) <;> (first | done | rw [if_pos k_6] | rw [if_neg k_6] | rw [if_neg (by rw [k_6]; decide)] | skip) <;> (first | done | rfl | (simp only [k_1, k_2, k_3, k_4, k_5, k_6]; rfl) | (simp [k_1, k_2, k_3, k_4, k_5, k_6, bI]; done)))
            · skip
              by_cases k_7 : what = 6
              · refine lv_tableIn (tgt := 101) hx hb dX4_count_1 (by rw [k_7]; decide) (by rw [k_7]; decide) (by rw [k_7]; rfl) (by decide) ?_
                refine lv_aload_n hx hb dX4_count_101 rfl (lv_at hl 0 rfl) ?_
                refine va_get (D := G.1) (ci := 4) (v := .ref (b 0)) (C := RX4) (T := TX4) (N := 8) hx hb hts i_X4_count_X4 hown hK.1 hP 0 rfl rfl 0 (by decide) f12 (fun _ h9 => h9) rfl dX4_count_102 ?_
                refine va_get (D := G.1) (ci := 3) (v := .int sc.size) (C := RX3) (T := TX3) (N := 7) hx hb hts i_X4_count_X3 hown hK.1 hP 1 rfl rfl 0 (by decide) f56 (fun _ h9 => h9) rfl dX4_count_105 ?_
                exact g_ri hx hb hr hlocks dX4_count_108 (by rw [xCoR] <;> (first | done | rw [if_pos k_1] | rw [if_neg k_1] | rw [if_neg (by rw [k_1]; decide)] | skip) <;> (first | done | rw [if_pos k_2] | rw [if_neg k_2] | rw [if_neg (by rw [k_2]; decide)] | skip) <;> (first | done | rw [if_pos k_3] | rw [if_neg k_3] | rw [if_neg (by rw [k_3]; decide)] | skip) <;> (first | done | rw [if_pos k_4] | rw [if_neg k_4] | rw [if_neg (by rw [k_4]; decide)] | skip) <;> (first | done | rw [if_pos k_5] | rw [if_neg k_5] | rw [if_neg (by rw [k_5]; decide)] | skip) <;> (first | done | rw [if_pos k_6] | rw [if_neg k_6] | rw [if_neg (by rw [k_6]; decide)] | skip) <;> (first | done | rw [if_pos k_7] | rw [if_neg k_7] | rw [if_neg (by rw [k_7]; decide)] | skip) <;> (first | done | rfl | (simp only [k_1, k_2, k_3, k_4, k_5, k_6, k_7]; rfl) | (simp [k_1, k_2, k_3, k_4, k_5, k_6, k_7, bI]; done)))
              · skip
                refine lv_tableOut (tgt := 109) hx hb dX4_count_1 (by have n0 := lv_neT k_1 (a := 0) (by decide); have n1 := lv_neT k_2 (a := 1) (by decide); have n2 := lv_neT k_3 (a := 2) (by decide); have n3 := lv_neT k_4 (a := 3) (by decide); have n4 := lv_neT k_5 (a := 4) (by decide); have n5 := lv_neT k_6 (a := 5) (by decide); have n6 := lv_neT k_7 (a := 6) (by decide); omega) (by decide) ?_
                refine lv_iconst (v := (-1)) hx hb dX4_count_109 (by decide) ?_
                exact g_ri hx hb hr hlocks dX4_count_110 (by rw [xCoR] <;> (first | done | rw [if_pos k_1] | rw [if_neg k_1] | rw [if_neg (by rw [k_1]; decide)] | skip) <;> (first | done | rw [if_pos k_2] | rw [if_neg k_2] | rw [if_neg (by rw [k_2]; decide)] | skip) <;> (first | done | rw [if_pos k_3] | rw [if_neg k_3] | rw [if_neg (by rw [k_3]; decide)] | skip) <;> (first | done | rw [if_pos k_4] | rw [if_neg k_4] | rw [if_neg (by rw [k_4]; decide)] | skip) <;> (first | done | rw [if_pos k_5] | rw [if_neg k_5] | rw [if_neg (by rw [k_5]; decide)] | skip) <;> (first | done | rw [if_pos k_6] | rw [if_neg k_6] | rw [if_neg (by rw [k_6]; decide)] | skip) <;> (first | done | rw [if_pos k_7] | rw [if_neg k_7] | rw [if_neg (by rw [k_7]; decide)] | skip) <;> (first | done | rfl | (simp only [k_1, k_2, k_3, k_4, k_5, k_6, k_7]; rfl) | (simp [k_1, k_2, k_3, k_4, k_5, k_6, k_7, bI]; done)))

theorem i_X4_trace_X4 : ∀ w ∈ wsX40, w ∈ wsX4_trace := by decide +kernel
theorem h_X4_trace : yX4_trace.cls = RX4 ∧ yX4_trace.cls ≠ "java/lang/invoke/MethodHandle" ∧ yX4_trace.cls ≠ "java/lang/invoke/VarHandle" ∧ (parseMethodDescriptor yX4_trace.desc).map (fun d => d.parameters.length) = some 0 := by decide +kernel
set_option maxHeartbeats 4000000 in
set_option maxRecDepth 100000 in
theorem c_X4_trace (lz : Launch) (G : gG) (r b f a d : Nat → Nat) (tr : Int64)  : gWr lz yX4_trace wsX4_trace 0 G [.ref (r 0)] (wRi r b f a d tr) (wRi r b f a d tr) (some (.long tr)) := by
  refine g_wr (by decide) rfl (Nat.le_of_ble_eq_true rfl) ?_
  intro pz ez sz mz bz tz cz hx hb hr hml hown hts hlocks hK A hAe hP hD hS ls hl
  have hl : lv_has ls 1 [(0, .ref (r 0))] := hl
  have f250 := hts (.fieldLink RX4 250 "WhisperRing" "trace" "J") (by decide +kernel)
  refine lv_aload_n hx hb dX4_trace_0 rfl (lv_at hl 0 rfl) ?_
  refine va_get (D := G.1) (ci := 4) (v := .long tr) (C := RX4) (T := TX4) (N := 8) hx hb hts i_X4_trace_X4 hown hK.1 hP 0 rfl rfl 7 (by decide) f250 (fun _ h9 => h9) rfl dX4_trace_1 ?_
  exact g_wl hx hb hr hlocks hAe hP hS dX4_trace_4 rfl
