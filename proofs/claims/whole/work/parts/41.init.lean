def mo0 : MoS := (0, 0, 0, 0, fun _ => 0, fun _ => 0, fun _ => 0, fun _ => 0, fun _ => 0, fun _ => 0)
def he0 : HeS := (0, fun _ => 0, fun _ => 0, fun _ => 0)
def sc0 : ScS := (0, fun _ => 0, 0, 0, 0, 0, 0)
def ha0 : HaS := (12, 1, 0, mo0, fun _ => 0, fun _ => 0)
def md0 : MdS := (fun _ => 0, 0, 12, 1, 0, fun _ => 0, fun _ => 0, 0, fun _ => 0, fun _ => 0, fun _ => 0, 0, 0, 0, 0, 0, 0, 0, 0, 0, fun _ => 0)
theorem pm_front (c0 : Nat × va_E) (X Y : va_W) : (c0 :: (X ++ Y)).Perm (Y ++ (c0 :: X)) := by
  show ((c0 :: X) ++ Y).Perm _
  exact List.perm_append_comm
theorem i_X2_init_X2 : ∀ w ∈ wsX20, w ∈ wsX2_init := by decide +kernel
theorem h_X2_init : yX2_init.cls ≠ "java/lang/invoke/MethodHandle" ∧ yX2_init.cls ≠ "java/lang/invoke/VarHandle" ∧ (parseMethodDescriptor yX2_init.desc).map (fun d => d.parameters.length) = some 0 := by decide +kernel
set_option maxHeartbeats 4000000 in
set_option maxRecDepth 100000 in
theorem c_X2_init (lz : Launch) (G : gG) : gIn lz yX2_init wsX2_init 1 6 50 G 2 [.int 0, .int 0, .int 0, .int 0, .null, .null, .null, .null, .null, .null] (fun u : Nat → Nat => wMo u G.2.1 mo0) (fun u => u 0) := by
  refine g_in (by decide) rfl (by decide) ?_
  intro pz ez sz mz bz tz cz h0 hx hb hr hml hown hts hlocks hin hK A hAe hA hP hD hS ls hl
  have hP : va_P G.1 vwCl ((h0, .inr (2, [.int 0, .int 0, .int 0, .int 0, .null, .null, .null, .null, .null, .null])) :: ([])) sz.heap := hP
  have hD : va_D A ((h0, .inr (2, [.int 0, .int 0, .int 0, .int 0, .null, .null, .null, .null, .null, .null])) :: ([])) := hD
  refine lv_aload_n hx hb dX2_init_0 rfl (lv_at hl 0 rfl) ?_
  refine W.objInit hx hb hown (hts (.methodLink RX2 3 objectInit) (by decide +kernel)) (hts (.instanceMethod objectInit) (by decide +kernel)) (hts (.code objectInit ⟨#[0xb1]⟩ 1 none) (List.mem_of_getElem? (i := 3) rfl)) rfl (by rw [hml]; exact hl.1) rfl dX2_init_1 (Nat.le_of_ble_eq_true rfl) (Nat.le_of_ble_eq_true rfl) ?_
  refine W.eq (g2 := F0 mz 4 ls []) rfl ?_
  refine lv_aload_n hx hb dX2_init_4 rfl (lv_at hl 0 rfl) ?_
  refine lv_bipush (v := 8) hx hb dX2_init_5 (by decide) ?_
  refine g_newI (N := 8) hx hb (hts (.arrayClass .int) (by decide +kernel)) hK.1 hP hD hS hA (by decide) (by decide) (Nat.le_of_ble_eq_true rfl) (Nat.le_of_ble_eq_true rfl) (Nat.le_of_ble_eq_true rfl) dX2_init_7 (fun q1 H hP hD hS => ?_)
  have hP : va_P G.1 vwCl ((h0, .inr (2, [.int 0, .int 0, .int 0, .int 0, .null, .null, .null, .null, .null, .null])) :: ([(q1, .inl (G.2.1, 8, .inl (fun _ => 0)))])) H := hP
  have hD : va_D A ((h0, .inr (2, [.int 0, .int 0, .int 0, .int 0, .null, .null, .null, .null, .null, .null])) :: ([(q1, .inl (G.2.1, 8, .inl (fun _ => 0)))])) := hD
  refine W.widen (k := 1) (n := 8) (Nat.le_of_ble_eq_true rfl) (Nat.le_of_ble_eq_true rfl) ?_
  refine va_putF (D := G.1) (ci := 2) (v := .ref q1) (ty := (.array .int)) (C := RX2) (T := TX2) (N := 10) hx hb hts i_X2_init_X2 tyX2 tyX2_ok nmX2 hown hK.1.1 hP hD hS 0 rfl rfl 4 (by decide) (hts (.fieldLink RX2 9 "WhisperRing$Moment" "from" "[I") (by decide +kernel)) (fun _ h9 => h9) rfl hin rfl (by decide +kernel) rfl rfl (Nat.le_of_ble_eq_true rfl) dX2_init_9 (fun H locs hP hD hS => ?_)
  have hP : va_P G.1 vwCl ((h0, .inr (2, [.int 0, .int 0, .int 0, .int 0, .ref q1, .null, .null, .null, .null, .null])) :: ([(q1, .inl (G.2.1, 8, .inl (fun _ => 0)))])) H := hP
  have hD : va_D A ((h0, .inr (2, [.int 0, .int 0, .int 0, .int 0, .ref q1, .null, .null, .null, .null, .null])) :: ([(q1, .inl (G.2.1, 8, .inl (fun _ => 0)))])) := hD
  refine lv_aload_n hx hb dX2_init_12 rfl (lv_at hl 0 rfl) ?_
  refine lv_bipush (v := 8) hx hb dX2_init_13 (by decide) ?_
  refine g_newI (N := 8) hx hb (hts (.arrayClass .int) (by decide +kernel)) hK.1 hP hD hS hA (by decide) (by decide) (Nat.le_of_ble_eq_true rfl) (Nat.le_of_ble_eq_true rfl) (Nat.le_of_ble_eq_true rfl) dX2_init_15 (fun q2 H hP hD hS => ?_)
  have hP : va_P G.1 vwCl ((h0, .inr (2, [.int 0, .int 0, .int 0, .int 0, .ref q1, .null, .null, .null, .null, .null])) :: ([(q1, .inl (G.2.1, 8, .inl (fun _ => 0)))] ++ [(q2, .inl (G.2.1, 8, .inl (fun _ => 0)))])) H := hP
  have hD : va_D A ((h0, .inr (2, [.int 0, .int 0, .int 0, .int 0, .ref q1, .null, .null, .null, .null, .null])) :: ([(q1, .inl (G.2.1, 8, .inl (fun _ => 0)))] ++ [(q2, .inl (G.2.1, 8, .inl (fun _ => 0)))])) := hD
  refine W.widen (k := 2) (n := 16) (Nat.le_of_ble_eq_true rfl) (Nat.le_of_ble_eq_true rfl) ?_
  refine va_putF (D := G.1) (ci := 2) (v := .ref q2) (ty := (.array .int)) (C := RX2) (T := TX2) (N := 10) hx hb hts i_X2_init_X2 tyX2 tyX2_ok nmX2 hown hK.1.1 hP hD hS 0 rfl rfl 5 (by decide) (hts (.fieldLink RX2 15 "WhisperRing$Moment" "speed" "[I") (by decide +kernel)) (fun _ h9 => h9) rfl hin rfl (by decide +kernel) rfl rfl (Nat.le_of_ble_eq_true rfl) dX2_init_17 (fun H locs hP hD hS => ?_)
  have hP : va_P G.1 vwCl ((h0, .inr (2, [.int 0, .int 0, .int 0, .int 0, .ref q1, .ref q2, .null, .null, .null, .null])) :: ([(q1, .inl (G.2.1, 8, .inl (fun _ => 0)))] ++ [(q2, .inl (G.2.1, 8, .inl (fun _ => 0)))])) H := hP
  have hD : va_D A ((h0, .inr (2, [.int 0, .int 0, .int 0, .int 0, .ref q1, .ref q2, .null, .null, .null, .null])) :: ([(q1, .inl (G.2.1, 8, .inl (fun _ => 0)))] ++ [(q2, .inl (G.2.1, 8, .inl (fun _ => 0)))])) := hD
  refine lv_aload_n hx hb dX2_init_20 rfl (lv_at hl 0 rfl) ?_
  refine lv_bipush (v := 8) hx hb dX2_init_21 (by decide) ?_
  refine g_newI (N := 8) hx hb (hts (.arrayClass .int) (by decide +kernel)) hK.1 hP hD hS hA (by decide) (by decide) (Nat.le_of_ble_eq_true rfl) (Nat.le_of_ble_eq_true rfl) (Nat.le_of_ble_eq_true rfl) dX2_init_23 (fun q3 H hP hD hS => ?_)
  have hP : va_P G.1 vwCl ((h0, .inr (2, [.int 0, .int 0, .int 0, .int 0, .ref q1, .ref q2, .null, .null, .null, .null])) :: ([(q1, .inl (G.2.1, 8, .inl (fun _ => 0)))] ++ [(q2, .inl (G.2.1, 8, .inl (fun _ => 0)))] ++ [(q3, .inl (G.2.1, 8, .inl (fun _ => 0)))])) H := hP
  have hD : va_D A ((h0, .inr (2, [.int 0, .int 0, .int 0, .int 0, .ref q1, .ref q2, .null, .null, .null, .null])) :: ([(q1, .inl (G.2.1, 8, .inl (fun _ => 0)))] ++ [(q2, .inl (G.2.1, 8, .inl (fun _ => 0)))] ++ [(q3, .inl (G.2.1, 8, .inl (fun _ => 0)))])) := hD
  refine W.widen (k := 3) (n := 24) (Nat.le_of_ble_eq_true rfl) (Nat.le_of_ble_eq_true rfl) ?_
  refine va_putF (D := G.1) (ci := 2) (v := .ref q3) (ty := (.array .int)) (C := RX2) (T := TX2) (N := 10) hx hb hts i_X2_init_X2 tyX2 tyX2_ok nmX2 hown hK.1.1 hP hD hS 0 rfl rfl 6 (by decide) (hts (.fieldLink RX2 18 "WhisperRing$Moment" "way" "[I") (by decide +kernel)) (fun _ h9 => h9) rfl hin rfl (by decide +kernel) rfl rfl (Nat.le_of_ble_eq_true rfl) dX2_init_25 (fun H locs hP hD hS => ?_)
  have hP : va_P G.1 vwCl ((h0, .inr (2, [.int 0, .int 0, .int 0, .int 0, .ref q1, .ref q2, .ref q3, .null, .null, .null])) :: ([(q1, .inl (G.2.1, 8, .inl (fun _ => 0)))] ++ [(q2, .inl (G.2.1, 8, .inl (fun _ => 0)))] ++ [(q3, .inl (G.2.1, 8, .inl (fun _ => 0)))])) H := hP
  have hD : va_D A ((h0, .inr (2, [.int 0, .int 0, .int 0, .int 0, .ref q1, .ref q2, .ref q3, .null, .null, .null])) :: ([(q1, .inl (G.2.1, 8, .inl (fun _ => 0)))] ++ [(q2, .inl (G.2.1, 8, .inl (fun _ => 0)))] ++ [(q3, .inl (G.2.1, 8, .inl (fun _ => 0)))])) := hD
  refine lv_aload_n hx hb dX2_init_28 rfl (lv_at hl 0 rfl) ?_
  refine lv_bipush (v := 8) hx hb dX2_init_29 (by decide) ?_
  refine g_newI (N := 8) hx hb (hts (.arrayClass .int) (by decide +kernel)) hK.1 hP hD hS hA (by decide) (by decide) (Nat.le_of_ble_eq_true rfl) (Nat.le_of_ble_eq_true rfl) (Nat.le_of_ble_eq_true rfl) dX2_init_31 (fun q4 H hP hD hS => ?_)
  have hP : va_P G.1 vwCl ((h0, .inr (2, [.int 0, .int 0, .int 0, .int 0, .ref q1, .ref q2, .ref q3, .null, .null, .null])) :: ([(q1, .inl (G.2.1, 8, .inl (fun _ => 0)))] ++ [(q2, .inl (G.2.1, 8, .inl (fun _ => 0)))] ++ [(q3, .inl (G.2.1, 8, .inl (fun _ => 0)))] ++ [(q4, .inl (G.2.1, 8, .inl (fun _ => 0)))])) H := hP
  have hD : va_D A ((h0, .inr (2, [.int 0, .int 0, .int 0, .int 0, .ref q1, .ref q2, .ref q3, .null, .null, .null])) :: ([(q1, .inl (G.2.1, 8, .inl (fun _ => 0)))] ++ [(q2, .inl (G.2.1, 8, .inl (fun _ => 0)))] ++ [(q3, .inl (G.2.1, 8, .inl (fun _ => 0)))] ++ [(q4, .inl (G.2.1, 8, .inl (fun _ => 0)))])) := hD
  refine W.widen (k := 4) (n := 32) (Nat.le_of_ble_eq_true rfl) (Nat.le_of_ble_eq_true rfl) ?_
  refine va_putF (D := G.1) (ci := 2) (v := .ref q4) (ty := (.array .int)) (C := RX2) (T := TX2) (N := 10) hx hb hts i_X2_init_X2 tyX2 tyX2_ok nmX2 hown hK.1.1 hP hD hS 0 rfl rfl 7 (by decide) (hts (.fieldLink RX2 21 "WhisperRing$Moment" "loud" "[I") (by decide +kernel)) (fun _ h9 => h9) rfl hin rfl (by decide +kernel) rfl rfl (Nat.le_of_ble_eq_true rfl) dX2_init_33 (fun H locs hP hD hS => ?_)
  have hP : va_P G.1 vwCl ((h0, .inr (2, [.int 0, .int 0, .int 0, .int 0, .ref q1, .ref q2, .ref q3, .ref q4, .null, .null])) :: ([(q1, .inl (G.2.1, 8, .inl (fun _ => 0)))] ++ [(q2, .inl (G.2.1, 8, .inl (fun _ => 0)))] ++ [(q3, .inl (G.2.1, 8, .inl (fun _ => 0)))] ++ [(q4, .inl (G.2.1, 8, .inl (fun _ => 0)))])) H := hP
  have hD : va_D A ((h0, .inr (2, [.int 0, .int 0, .int 0, .int 0, .ref q1, .ref q2, .ref q3, .ref q4, .null, .null])) :: ([(q1, .inl (G.2.1, 8, .inl (fun _ => 0)))] ++ [(q2, .inl (G.2.1, 8, .inl (fun _ => 0)))] ++ [(q3, .inl (G.2.1, 8, .inl (fun _ => 0)))] ++ [(q4, .inl (G.2.1, 8, .inl (fun _ => 0)))])) := hD
  refine lv_aload_n hx hb dX2_init_36 rfl (lv_at hl 0 rfl) ?_
  refine lv_bipush (v := 8) hx hb dX2_init_37 (by decide) ?_
  refine g_newI (N := 8) hx hb (hts (.arrayClass .int) (by decide +kernel)) hK.1 hP hD hS hA (by decide) (by decide) (Nat.le_of_ble_eq_true rfl) (Nat.le_of_ble_eq_true rfl) (Nat.le_of_ble_eq_true rfl) dX2_init_39 (fun q5 H hP hD hS => ?_)
  have hP : va_P G.1 vwCl ((h0, .inr (2, [.int 0, .int 0, .int 0, .int 0, .ref q1, .ref q2, .ref q3, .ref q4, .null, .null])) :: ([(q1, .inl (G.2.1, 8, .inl (fun _ => 0)))] ++ [(q2, .inl (G.2.1, 8, .inl (fun _ => 0)))] ++ [(q3, .inl (G.2.1, 8, .inl (fun _ => 0)))] ++ [(q4, .inl (G.2.1, 8, .inl (fun _ => 0)))] ++ [(q5, .inl (G.2.1, 8, .inl (fun _ => 0)))])) H := hP
  have hD : va_D A ((h0, .inr (2, [.int 0, .int 0, .int 0, .int 0, .ref q1, .ref q2, .ref q3, .ref q4, .null, .null])) :: ([(q1, .inl (G.2.1, 8, .inl (fun _ => 0)))] ++ [(q2, .inl (G.2.1, 8, .inl (fun _ => 0)))] ++ [(q3, .inl (G.2.1, 8, .inl (fun _ => 0)))] ++ [(q4, .inl (G.2.1, 8, .inl (fun _ => 0)))] ++ [(q5, .inl (G.2.1, 8, .inl (fun _ => 0)))])) := hD
  refine W.widen (k := 5) (n := 40) (Nat.le_of_ble_eq_true rfl) (Nat.le_of_ble_eq_true rfl) ?_
  refine va_putF (D := G.1) (ci := 2) (v := .ref q5) (ty := (.array .int)) (C := RX2) (T := TX2) (N := 10) hx hb hts i_X2_init_X2 tyX2 tyX2_ok nmX2 hown hK.1.1 hP hD hS 0 rfl rfl 8 (by decide) (hts (.fieldLink RX2 24 "WhisperRing$Moment" "saidAt" "[I") (by decide +kernel)) (fun _ h9 => h9) rfl hin rfl (by decide +kernel) rfl rfl (Nat.le_of_ble_eq_true rfl) dX2_init_41 (fun H locs hP hD hS => ?_)
  have hP : va_P G.1 vwCl ((h0, .inr (2, [.int 0, .int 0, .int 0, .int 0, .ref q1, .ref q2, .ref q3, .ref q4, .ref q5, .null])) :: ([(q1, .inl (G.2.1, 8, .inl (fun _ => 0)))] ++ [(q2, .inl (G.2.1, 8, .inl (fun _ => 0)))] ++ [(q3, .inl (G.2.1, 8, .inl (fun _ => 0)))] ++ [(q4, .inl (G.2.1, 8, .inl (fun _ => 0)))] ++ [(q5, .inl (G.2.1, 8, .inl (fun _ => 0)))])) H := hP
  have hD : va_D A ((h0, .inr (2, [.int 0, .int 0, .int 0, .int 0, .ref q1, .ref q2, .ref q3, .ref q4, .ref q5, .null])) :: ([(q1, .inl (G.2.1, 8, .inl (fun _ => 0)))] ++ [(q2, .inl (G.2.1, 8, .inl (fun _ => 0)))] ++ [(q3, .inl (G.2.1, 8, .inl (fun _ => 0)))] ++ [(q4, .inl (G.2.1, 8, .inl (fun _ => 0)))] ++ [(q5, .inl (G.2.1, 8, .inl (fun _ => 0)))])) := hD
  refine lv_aload_n hx hb dX2_init_44 rfl (lv_at hl 0 rfl) ?_
  refine lv_bipush (v := 10) hx hb dX2_init_45 (by decide) ?_
  refine g_newI (N := 10) hx hb (hts (.arrayClass .int) (by decide +kernel)) hK.1 hP hD hS hA (by decide) (by decide) (Nat.le_of_ble_eq_true rfl) (Nat.le_of_ble_eq_true rfl) (Nat.le_of_ble_eq_true rfl) dX2_init_47 (fun q6 H hP hD hS => ?_)
  have hP : va_P G.1 vwCl ((h0, .inr (2, [.int 0, .int 0, .int 0, .int 0, .ref q1, .ref q2, .ref q3, .ref q4, .ref q5, .null])) :: ([(q1, .inl (G.2.1, 8, .inl (fun _ => 0)))] ++ [(q2, .inl (G.2.1, 8, .inl (fun _ => 0)))] ++ [(q3, .inl (G.2.1, 8, .inl (fun _ => 0)))] ++ [(q4, .inl (G.2.1, 8, .inl (fun _ => 0)))] ++ [(q5, .inl (G.2.1, 8, .inl (fun _ => 0)))] ++ [(q6, .inl (G.2.1, 10, .inl (fun _ => 0)))])) H := hP
  have hD : va_D A ((h0, .inr (2, [.int 0, .int 0, .int 0, .int 0, .ref q1, .ref q2, .ref q3, .ref q4, .ref q5, .null])) :: ([(q1, .inl (G.2.1, 8, .inl (fun _ => 0)))] ++ [(q2, .inl (G.2.1, 8, .inl (fun _ => 0)))] ++ [(q3, .inl (G.2.1, 8, .inl (fun _ => 0)))] ++ [(q4, .inl (G.2.1, 8, .inl (fun _ => 0)))] ++ [(q5, .inl (G.2.1, 8, .inl (fun _ => 0)))] ++ [(q6, .inl (G.2.1, 10, .inl (fun _ => 0)))])) := hD
  refine W.widen (k := 6) (n := 50) (Nat.le_of_ble_eq_true rfl) (Nat.le_of_ble_eq_true rfl) ?_
  refine va_putF (D := G.1) (ci := 2) (v := .ref q6) (ty := (.array .int)) (C := RX2) (T := TX2) (N := 10) hx hb hts i_X2_init_X2 tyX2 tyX2_ok nmX2 hown hK.1.1 hP hD hS 0 rfl rfl 9 (by decide) (hts (.fieldLink RX2 27 "WhisperRing$Moment" "deeds" "[I") (by decide +kernel)) (fun _ h9 => h9) rfl hin rfl (by decide +kernel) rfl rfl (Nat.le_of_ble_eq_true rfl) dX2_init_49 (fun H locs hP hD hS => ?_)
  have hP : va_P G.1 vwCl ((h0, .inr (2, [.int 0, .int 0, .int 0, .int 0, .ref q1, .ref q2, .ref q3, .ref q4, .ref q5, .ref q6])) :: ([(q1, .inl (G.2.1, 8, .inl (fun _ => 0)))] ++ [(q2, .inl (G.2.1, 8, .inl (fun _ => 0)))] ++ [(q3, .inl (G.2.1, 8, .inl (fun _ => 0)))] ++ [(q4, .inl (G.2.1, 8, .inl (fun _ => 0)))] ++ [(q5, .inl (G.2.1, 8, .inl (fun _ => 0)))] ++ [(q6, .inl (G.2.1, 10, .inl (fun _ => 0)))])) H := hP
  have hD : va_D A ((h0, .inr (2, [.int 0, .int 0, .int 0, .int 0, .ref q1, .ref q2, .ref q3, .ref q4, .ref q5, .ref q6])) :: ([(q1, .inl (G.2.1, 8, .inl (fun _ => 0)))] ++ [(q2, .inl (G.2.1, 8, .inl (fun _ => 0)))] ++ [(q3, .inl (G.2.1, 8, .inl (fun _ => 0)))] ++ [(q4, .inl (G.2.1, 8, .inl (fun _ => 0)))] ++ [(q5, .inl (G.2.1, 8, .inl (fun _ => 0)))] ++ [(q6, .inl (G.2.1, 10, .inl (fun _ => 0)))])) := hD
  exact g_inret (w := fun u : Nat → Nat => wMo u G.2.1 mo0) (at0 := fun u => u 0) (fun k => [h0, q1, q2, q3, q4, q5, q6].getD k 0) hx hb hr hlocks rfl hP hD hS (Nat.le_refl _) (Nat.le_refl _) dX2_init_52
theorem i_X1_init_X1 : ∀ w ∈ wsX10, w ∈ wsX1_init := by decide +kernel
theorem h_X1_init : yX1_init.cls ≠ "java/lang/invoke/MethodHandle" ∧ yX1_init.cls ≠ "java/lang/invoke/VarHandle" ∧ (parseMethodDescriptor yX1_init.desc).map (fun d => d.parameters.length) = some 0 := by decide +kernel
set_option maxHeartbeats 4000000 in
set_option maxRecDepth 100000 in
theorem c_X1_init (lz : Launch) (G : gG) : gIn lz yX1_init wsX1_init 1 3 18 G 1 [.int 0, .null, .null, .null] (fun u : Nat → Nat => wHe u G.2.1 he0) (fun u => u 0) := by
  refine g_in (by decide) rfl (by decide) ?_
  intro pz ez sz mz bz tz cz h0 hx hb hr hml hown hts hlocks hin hK A hAe hA hP hD hS ls hl
  have hP : va_P G.1 vwCl ((h0, .inr (1, [.int 0, .null, .null, .null])) :: ([])) sz.heap := hP
  have hD : va_D A ((h0, .inr (1, [.int 0, .null, .null, .null])) :: ([])) := hD
  refine lv_aload_n hx hb dX1_init_0 rfl (lv_at hl 0 rfl) ?_
  refine W.objInit hx hb hown (hts (.methodLink RX1 3 objectInit) (by decide +kernel)) (hts (.instanceMethod objectInit) (by decide +kernel)) (hts (.code objectInit ⟨#[0xb1]⟩ 1 none) (List.mem_of_getElem? (i := 3) rfl)) rfl (by rw [hml]; exact hl.1) rfl dX1_init_1 (Nat.le_of_ble_eq_true rfl) (Nat.le_of_ble_eq_true rfl) ?_
  refine W.eq (g2 := F0 mz 4 ls []) rfl ?_
  refine lv_aload_n hx hb dX1_init_4 rfl (lv_at hl 0 rfl) ?_
  refine lv_bipush (v := 6) hx hb dX1_init_5 (by decide) ?_
  refine g_newI (N := 6) hx hb (hts (.arrayClass .int) (by decide +kernel)) hK.1 hP hD hS hA (by decide) (by decide) (Nat.le_of_ble_eq_true rfl) (Nat.le_of_ble_eq_true rfl) (Nat.le_of_ble_eq_true rfl) dX1_init_7 (fun q1 H hP hD hS => ?_)
  have hP : va_P G.1 vwCl ((h0, .inr (1, [.int 0, .null, .null, .null])) :: ([(q1, .inl (G.2.1, 6, .inl (fun _ => 0)))])) H := hP
  have hD : va_D A ((h0, .inr (1, [.int 0, .null, .null, .null])) :: ([(q1, .inl (G.2.1, 6, .inl (fun _ => 0)))])) := hD
  refine W.widen (k := 1) (n := 6) (Nat.le_of_ble_eq_true rfl) (Nat.le_of_ble_eq_true rfl) ?_
  refine va_putF (D := G.1) (ci := 1) (v := .ref q1) (ty := (.array .int)) (C := RX1) (T := TX1) (N := 4) hx hb hts i_X1_init_X1 tyX1 tyX1_ok nmX1 hown hK.1.1 hP hD hS 0 rfl rfl 1 (by decide) (hts (.fieldLink RX1 9 "WhisperRing$Hearsay" "at" "[I") (by decide +kernel)) (fun _ h9 => h9) rfl hin rfl (by decide +kernel) rfl rfl (Nat.le_of_ble_eq_true rfl) dX1_init_9 (fun H locs hP hD hS => ?_)
  have hP : va_P G.1 vwCl ((h0, .inr (1, [.int 0, .ref q1, .null, .null])) :: ([(q1, .inl (G.2.1, 6, .inl (fun _ => 0)))])) H := hP
  have hD : va_D A ((h0, .inr (1, [.int 0, .ref q1, .null, .null])) :: ([(q1, .inl (G.2.1, 6, .inl (fun _ => 0)))])) := hD
  refine lv_aload_n hx hb dX1_init_12 rfl (lv_at hl 0 rfl) ?_
  refine lv_bipush (v := 6) hx hb dX1_init_13 (by decide) ?_
  refine g_newI (N := 6) hx hb (hts (.arrayClass .int) (by decide +kernel)) hK.1 hP hD hS hA (by decide) (by decide) (Nat.le_of_ble_eq_true rfl) (Nat.le_of_ble_eq_true rfl) (Nat.le_of_ble_eq_true rfl) dX1_init_15 (fun q2 H hP hD hS => ?_)
  have hP : va_P G.1 vwCl ((h0, .inr (1, [.int 0, .ref q1, .null, .null])) :: ([(q1, .inl (G.2.1, 6, .inl (fun _ => 0)))] ++ [(q2, .inl (G.2.1, 6, .inl (fun _ => 0)))])) H := hP
  have hD : va_D A ((h0, .inr (1, [.int 0, .ref q1, .null, .null])) :: ([(q1, .inl (G.2.1, 6, .inl (fun _ => 0)))] ++ [(q2, .inl (G.2.1, 6, .inl (fun _ => 0)))])) := hD
  refine W.widen (k := 2) (n := 12) (Nat.le_of_ble_eq_true rfl) (Nat.le_of_ble_eq_true rfl) ?_
  refine va_putF (D := G.1) (ci := 1) (v := .ref q2) (ty := (.array .int)) (C := RX1) (T := TX1) (N := 4) hx hb hts i_X1_init_X1 tyX1 tyX1_ok nmX1 hown hK.1.1 hP hD hS 0 rfl rfl 2 (by decide) (hts (.fieldLink RX1 15 "WhisperRing$Hearsay" "behind" "[I") (by decide +kernel)) (fun _ h9 => h9) rfl hin rfl (by decide +kernel) rfl rfl (Nat.le_of_ble_eq_true rfl) dX1_init_17 (fun H locs hP hD hS => ?_)
  have hP : va_P G.1 vwCl ((h0, .inr (1, [.int 0, .ref q1, .ref q2, .null])) :: ([(q1, .inl (G.2.1, 6, .inl (fun _ => 0)))] ++ [(q2, .inl (G.2.1, 6, .inl (fun _ => 0)))])) H := hP
  have hD : va_D A ((h0, .inr (1, [.int 0, .ref q1, .ref q2, .null])) :: ([(q1, .inl (G.2.1, 6, .inl (fun _ => 0)))] ++ [(q2, .inl (G.2.1, 6, .inl (fun _ => 0)))])) := hD
  refine lv_aload_n hx hb dX1_init_20 rfl (lv_at hl 0 rfl) ?_
  refine lv_bipush (v := 6) hx hb dX1_init_21 (by decide) ?_
  refine g_newI (N := 6) hx hb (hts (.arrayClass .int) (by decide +kernel)) hK.1 hP hD hS hA (by decide) (by decide) (Nat.le_of_ble_eq_true rfl) (Nat.le_of_ble_eq_true rfl) (Nat.le_of_ble_eq_true rfl) dX1_init_23 (fun q3 H hP hD hS => ?_)
  have hP : va_P G.1 vwCl ((h0, .inr (1, [.int 0, .ref q1, .ref q2, .null])) :: ([(q1, .inl (G.2.1, 6, .inl (fun _ => 0)))] ++ [(q2, .inl (G.2.1, 6, .inl (fun _ => 0)))] ++ [(q3, .inl (G.2.1, 6, .inl (fun _ => 0)))])) H := hP
  have hD : va_D A ((h0, .inr (1, [.int 0, .ref q1, .ref q2, .null])) :: ([(q1, .inl (G.2.1, 6, .inl (fun _ => 0)))] ++ [(q2, .inl (G.2.1, 6, .inl (fun _ => 0)))] ++ [(q3, .inl (G.2.1, 6, .inl (fun _ => 0)))])) := hD
  refine W.widen (k := 3) (n := 18) (Nat.le_of_ble_eq_true rfl) (Nat.le_of_ble_eq_true rfl) ?_
  refine va_putF (D := G.1) (ci := 1) (v := .ref q3) (ty := (.array .int)) (C := RX1) (T := TX1) (N := 4) hx hb hts i_X1_init_X1 tyX1 tyX1_ok nmX1 hown hK.1.1 hP hD hS 0 rfl rfl 3 (by decide) (hts (.fieldLink RX1 18 "WhisperRing$Hearsay" "there" "[I") (by decide +kernel)) (fun _ h9 => h9) rfl hin rfl (by decide +kernel) rfl rfl (Nat.le_of_ble_eq_true rfl) dX1_init_25 (fun H locs hP hD hS => ?_)
  have hP : va_P G.1 vwCl ((h0, .inr (1, [.int 0, .ref q1, .ref q2, .ref q3])) :: ([(q1, .inl (G.2.1, 6, .inl (fun _ => 0)))] ++ [(q2, .inl (G.2.1, 6, .inl (fun _ => 0)))] ++ [(q3, .inl (G.2.1, 6, .inl (fun _ => 0)))])) H := hP
  have hD : va_D A ((h0, .inr (1, [.int 0, .ref q1, .ref q2, .ref q3])) :: ([(q1, .inl (G.2.1, 6, .inl (fun _ => 0)))] ++ [(q2, .inl (G.2.1, 6, .inl (fun _ => 0)))] ++ [(q3, .inl (G.2.1, 6, .inl (fun _ => 0)))])) := hD
  exact g_inret (w := fun u : Nat → Nat => wHe u G.2.1 he0) (at0 := fun u => u 0) (fun k => [h0, q1, q2, q3].getD k 0) hx hb hr hlocks rfl hP hD hS (Nat.le_refl _) (Nat.le_refl _) dX1_init_28
theorem i_X3_init_X3 : ∀ w ∈ wsX30, w ∈ wsX3_init := by decide +kernel
theorem h_X3_init : yX3_init.cls ≠ "java/lang/invoke/MethodHandle" ∧ yX3_init.cls ≠ "java/lang/invoke/VarHandle" ∧ (parseMethodDescriptor yX3_init.desc).map (fun d => d.parameters.length) = some 0 := by decide +kernel
set_option maxHeartbeats 4000000 in
set_option maxRecDepth 100000 in
theorem c_X3_init (lz : Launch) (G : gG) : gIn lz yX3_init wsX3_init 1 1 120 G 3 [.int 0, .null, .int 0, .int 0, .int 0, .int 0, .int 0] (fun u : Nat → Nat => wSc u G.2.1 sc0) (fun u => u 0) := by
  refine g_in (by decide) rfl (by decide) ?_
  intro pz ez sz mz bz tz cz h0 hx hb hr hml hown hts hlocks hin hK A hAe hA hP hD hS ls hl
  have hP : va_P G.1 vwCl ((h0, .inr (3, [.int 0, .null, .int 0, .int 0, .int 0, .int 0, .int 0])) :: ([])) sz.heap := hP
  have hD : va_D A ((h0, .inr (3, [.int 0, .null, .int 0, .int 0, .int 0, .int 0, .int 0])) :: ([])) := hD
  refine lv_aload_n hx hb dX3_init_0 rfl (lv_at hl 0 rfl) ?_
  refine W.objInit hx hb hown (hts (.methodLink RX3 3 objectInit) (by decide +kernel)) (hts (.instanceMethod objectInit) (by decide +kernel)) (hts (.code objectInit ⟨#[0xb1]⟩ 1 none) (List.mem_of_getElem? (i := 3) rfl)) rfl (by rw [hml]; exact hl.1) rfl dX3_init_1 (Nat.le_of_ble_eq_true rfl) (Nat.le_of_ble_eq_true rfl) ?_
  refine W.eq (g2 := F0 mz 4 ls []) rfl ?_
  refine lv_aload_n hx hb dX3_init_4 rfl (lv_at hl 0 rfl) ?_
  refine lv_bipush (v := 120) hx hb dX3_init_5 (by decide) ?_
  refine g_newI (N := 120) hx hb (hts (.arrayClass .int) (by decide +kernel)) hK.1 hP hD hS hA (by decide) (by decide) (Nat.le_of_ble_eq_true rfl) (Nat.le_of_ble_eq_true rfl) (Nat.le_of_ble_eq_true rfl) dX3_init_7 (fun q1 H hP hD hS => ?_)
  have hP : va_P G.1 vwCl ((h0, .inr (3, [.int 0, .null, .int 0, .int 0, .int 0, .int 0, .int 0])) :: ([(q1, .inl (G.2.1, 120, .inl (fun _ => 0)))])) H := hP
  have hD : va_D A ((h0, .inr (3, [.int 0, .null, .int 0, .int 0, .int 0, .int 0, .int 0])) :: ([(q1, .inl (G.2.1, 120, .inl (fun _ => 0)))])) := hD
  refine W.widen (k := 1) (n := 120) (Nat.le_of_ble_eq_true rfl) (Nat.le_of_ble_eq_true rfl) ?_
  refine va_putF (D := G.1) (ci := 3) (v := .ref q1) (ty := (.array .int)) (C := RX3) (T := TX3) (N := 7) hx hb hts i_X3_init_X3 tyX3 tyX3_ok nmX3 hown hK.1.1 hP hD hS 0 rfl rfl 1 (by decide) (hts (.fieldLink RX3 9 "WhisperRing$Script" "bytes" "[I") (by decide +kernel)) (fun _ h9 => h9) rfl hin rfl (by decide +kernel) rfl rfl (Nat.le_of_ble_eq_true rfl) dX3_init_9 (fun H locs hP hD hS => ?_)
  have hP : va_P G.1 vwCl ((h0, .inr (3, [.int 0, .ref q1, .int 0, .int 0, .int 0, .int 0, .int 0])) :: ([(q1, .inl (G.2.1, 120, .inl (fun _ => 0)))])) H := hP
  have hD : va_D A ((h0, .inr (3, [.int 0, .ref q1, .int 0, .int 0, .int 0, .int 0, .int 0])) :: ([(q1, .inl (G.2.1, 120, .inl (fun _ => 0)))])) := hD
  exact g_inret (w := fun u : Nat → Nat => wSc u G.2.1 sc0) (at0 := fun u => u 0) (fun k => [h0, q1].getD k 0) hx hb hr hlocks rfl hP hD hS (Nat.le_refl _) (Nat.le_refl _) dX3_init_12
theorem i_X5_init_X5 : ∀ w ∈ wsX50, w ∈ wsX5_init := by decide +kernel
theorem h_X5_init : yX5_init.cls ≠ "java/lang/invoke/MethodHandle" ∧ yX5_init.cls ≠ "java/lang/invoke/VarHandle" ∧ (parseMethodDescriptor yX5_init.desc).map (fun d => d.parameters.length) = some 0 := by decide +kernel
set_option maxHeartbeats 4000000 in
set_option maxRecDepth 100000 in
theorem c_X5_init (lz : Launch) (G : gG) : gIn lz yX5_init wsX5_init 1 7 1842 G 5 [.null, .int 0, .int 0, .int 0, .int 0, .null, .null, .int 0, .null, .null, .null, .int 0, .long 0, .int 0, .int 0, .int 0, .int 0, .int 0, .int 0, .int 0, .null] (fun u : Nat → Nat => wMd u G.2.1 G.2.2.1 md0) (fun u => u 0) := by
  refine g_in (by decide) rfl (by decide) ?_
  intro pz ez sz mz bz tz cz h0 hx hb hr hml hown hts hlocks hin hK A hAe hA hP hD hS ls hl
  have hP : va_P G.1 vwCl ((h0, .inr (5, [.null, .int 0, .int 0, .int 0, .int 0, .null, .null, .int 0, .null, .null, .null, .int 0, .long 0, .int 0, .int 0, .int 0, .int 0, .int 0, .int 0, .int 0, .null])) :: ([])) sz.heap := hP
  have hD : va_D A ((h0, .inr (5, [.null, .int 0, .int 0, .int 0, .int 0, .null, .null, .int 0, .null, .null, .null, .int 0, .long 0, .int 0, .int 0, .int 0, .int 0, .int 0, .int 0, .int 0, .null])) :: ([])) := hD
  refine lv_aload_n hx hb dX5_init_0 rfl (lv_at hl 0 rfl) ?_
  refine W.objInit hx hb hown (hts (.methodLink RX5 1 objectInit) (by decide +kernel)) (hts (.instanceMethod objectInit) (by decide +kernel)) (hts (.code objectInit ⟨#[0xb1]⟩ 1 none) (List.mem_of_getElem? (i := 3) rfl)) rfl (by rw [hml]; exact hl.1) rfl dX5_init_1 (Nat.le_of_ble_eq_true rfl) (Nat.le_of_ble_eq_true rfl) ?_
  refine W.eq (g2 := F0 mz 4 ls []) rfl ?_
  refine lv_aload_n hx hb dX5_init_4 rfl (lv_at hl 0 rfl) ?_
  refine lv_bipush (v := 120) hx hb dX5_init_5 (by decide) ?_
  refine g_newI (N := 120) hx hb (hts (.arrayClass .int) (by decide +kernel)) hK.1 hP hD hS hA (by decide) (by decide) (Nat.le_of_ble_eq_true rfl) (Nat.le_of_ble_eq_true rfl) (Nat.le_of_ble_eq_true rfl) dX5_init_7 (fun q1 H hP hD hS => ?_)
  have hP : va_P G.1 vwCl ((h0, .inr (5, [.null, .int 0, .int 0, .int 0, .int 0, .null, .null, .int 0, .null, .null, .null, .int 0, .long 0, .int 0, .int 0, .int 0, .int 0, .int 0, .int 0, .int 0, .null])) :: ([(q1, .inl (G.2.1, 120, .inl (fun _ => 0)))])) H := hP
  have hD : va_D A ((h0, .inr (5, [.null, .int 0, .int 0, .int 0, .int 0, .null, .null, .int 0, .null, .null, .null, .int 0, .long 0, .int 0, .int 0, .int 0, .int 0, .int 0, .int 0, .int 0, .null])) :: ([(q1, .inl (G.2.1, 120, .inl (fun _ => 0)))])) := hD
  refine W.widen (k := 1) (n := 120) (Nat.le_of_ble_eq_true rfl) (Nat.le_of_ble_eq_true rfl) ?_
  refine va_putF (D := G.1) (ci := 5) (v := .ref q1) (ty := (.array .int)) (C := RX5) (T := TX5) (N := 21) hx hb hts i_X5_init_X5 tyX5 tyX5_ok nmX5 hown hK.1.1 hP hD hS 0 rfl rfl 0 (by decide) (hts (.fieldLink RX5 7 "WhisperRingModel" "text" "[I") (by decide +kernel)) (fun _ h9 => h9) rfl hin rfl (by decide +kernel) rfl rfl (Nat.le_of_ble_eq_true rfl) dX5_init_9 (fun H locs hP hD hS => ?_)
  have hP : va_P G.1 vwCl ((h0, .inr (5, [.ref q1, .int 0, .int 0, .int 0, .int 0, .null, .null, .int 0, .null, .null, .null, .int 0, .long 0, .int 0, .int 0, .int 0, .int 0, .int 0, .int 0, .int 0, .null])) :: ([(q1, .inl (G.2.1, 120, .inl (fun _ => 0)))])) H := hP
  have hD : va_D A ((h0, .inr (5, [.ref q1, .int 0, .int 0, .int 0, .int 0, .null, .null, .int 0, .null, .null, .null, .int 0, .long 0, .int 0, .int 0, .int 0, .int 0, .int 0, .int 0, .int 0, .null])) :: ([(q1, .inl (G.2.1, 120, .inl (fun _ => 0)))])) := hD
  refine lv_aload_n hx hb dX5_init_12 rfl (lv_at hl 0 rfl) ?_
  refine lv_bipush (v := 12) hx hb dX5_init_13 (by decide) ?_
  refine va_put (D := G.1) (ci := 5) (v := .int 12) (ty := .int) (C := RX5) (T := TX5) (N := 21) hx hb hts i_X5_init_X5 tyX5 tyX5_ok nmX5 hown hK.1.1 hP hD hS 0 rfl rfl 2 (by decide) (hts (.fieldLink RX5 13 "WhisperRingModel" "places" "I") (by decide +kernel)) (fun _ h9 => h9) rfl (by decide +kernel) rfl rfl (Nat.le_of_ble_eq_true rfl) dX5_init_15 (fun H locs hP hD hS => ?_)
  have hP : va_P G.1 vwCl ((h0, .inr (5, [.ref q1, .int 0, .int 12, .int 0, .int 0, .null, .null, .int 0, .null, .null, .null, .int 0, .long 0, .int 0, .int 0, .int 0, .int 0, .int 0, .int 0, .int 0, .null])) :: ([(q1, .inl (G.2.1, 120, .inl (fun _ => 0)))])) H := hP
  have hD : va_D A ((h0, .inr (5, [.ref q1, .int 0, .int 12, .int 0, .int 0, .null, .null, .int 0, .null, .null, .null, .int 0, .long 0, .int 0, .int 0, .int 0, .int 0, .int 0, .int 0, .int 0, .null])) :: ([(q1, .inl (G.2.1, 120, .inl (fun _ => 0)))])) := hD
  refine lv_aload_n hx hb dX5_init_18 rfl (lv_at hl 0 rfl) ?_
  refine lv_iconst (v := 1) hx hb dX5_init_19 (by decide) ?_
  refine va_put (D := G.1) (ci := 5) (v := .int 1) (ty := .int) (C := RX5) (T := TX5) (N := 21) hx hb hts i_X5_init_X5 tyX5 tyX5_ok nmX5 hown hK.1.1 hP hD hS 0 rfl rfl 3 (by decide) (hts (.fieldLink RX5 17 "WhisperRingModel" "loss" "I") (by decide +kernel)) (fun _ h9 => h9) rfl (by decide +kernel) rfl rfl (Nat.le_of_ble_eq_true rfl) dX5_init_20 (fun H locs hP hD hS => ?_)
  have hP : va_P G.1 vwCl ((h0, .inr (5, [.ref q1, .int 0, .int 12, .int 1, .int 0, .null, .null, .int 0, .null, .null, .null, .int 0, .long 0, .int 0, .int 0, .int 0, .int 0, .int 0, .int 0, .int 0, .null])) :: ([(q1, .inl (G.2.1, 120, .inl (fun _ => 0)))])) H := hP
  have hD : va_D A ((h0, .inr (5, [.ref q1, .int 0, .int 12, .int 1, .int 0, .null, .null, .int 0, .null, .null, .null, .int 0, .long 0, .int 0, .int 0, .int 0, .int 0, .int 0, .int 0, .int 0, .null])) :: ([(q1, .inl (G.2.1, 120, .inl (fun _ => 0)))])) := hD
  refine lv_aload_n hx hb dX5_init_23 rfl (lv_at hl 0 rfl) ?_
  refine lv_bipush (v := 50) hx hb dX5_init_24 (by decide) ?_
  refine g_newI (N := 50) hx hb (hts (.arrayClass .int) (by decide +kernel)) hK.1 hP hD hS hA (by decide) (by decide) (Nat.le_of_ble_eq_true rfl) (Nat.le_of_ble_eq_true rfl) (Nat.le_of_ble_eq_true rfl) dX5_init_26 (fun q2 H hP hD hS => ?_)
  have hP : va_P G.1 vwCl ((h0, .inr (5, [.ref q1, .int 0, .int 12, .int 1, .int 0, .null, .null, .int 0, .null, .null, .null, .int 0, .long 0, .int 0, .int 0, .int 0, .int 0, .int 0, .int 0, .int 0, .null])) :: ([(q1, .inl (G.2.1, 120, .inl (fun _ => 0)))] ++ [(q2, .inl (G.2.1, 50, .inl (fun _ => 0)))])) H := hP
  have hD : va_D A ((h0, .inr (5, [.ref q1, .int 0, .int 12, .int 1, .int 0, .null, .null, .int 0, .null, .null, .null, .int 0, .long 0, .int 0, .int 0, .int 0, .int 0, .int 0, .int 0, .int 0, .null])) :: ([(q1, .inl (G.2.1, 120, .inl (fun _ => 0)))] ++ [(q2, .inl (G.2.1, 50, .inl (fun _ => 0)))])) := hD
  refine W.widen (k := 2) (n := 170) (Nat.le_of_ble_eq_true rfl) (Nat.le_of_ble_eq_true rfl) ?_
  refine va_putF (D := G.1) (ci := 5) (v := .ref q2) (ty := (.array .int)) (C := RX5) (T := TX5) (N := 21) hx hb hts i_X5_init_X5 tyX5 tyX5_ok nmX5 hown hK.1.1 hP hD hS 0 rfl rfl 5 (by decide) (hts (.fieldLink RX5 20 "WhisperRingModel" "st" "[I") (by decide +kernel)) (fun _ h9 => h9) rfl hin rfl (by decide +kernel) rfl rfl (Nat.le_of_ble_eq_true rfl) dX5_init_28 (fun H locs hP hD hS => ?_)
  have hP : va_P G.1 vwCl ((h0, .inr (5, [.ref q1, .int 0, .int 12, .int 1, .int 0, .ref q2, .null, .int 0, .null, .null, .null, .int 0, .long 0, .int 0, .int 0, .int 0, .int 0, .int 0, .int 0, .int 0, .null])) :: ([(q1, .inl (G.2.1, 120, .inl (fun _ => 0)))] ++ [(q2, .inl (G.2.1, 50, .inl (fun _ => 0)))])) H := hP
  have hD : va_D A ((h0, .inr (5, [.ref q1, .int 0, .int 12, .int 1, .int 0, .ref q2, .null, .int 0, .null, .null, .null, .int 0, .long 0, .int 0, .int 0, .int 0, .int 0, .int 0, .int 0, .int 0, .null])) :: ([(q1, .inl (G.2.1, 120, .inl (fun _ => 0)))] ++ [(q2, .inl (G.2.1, 50, .inl (fun _ => 0)))])) := hD
  refine lv_aload_n hx hb dX5_init_31 rfl (lv_at hl 0 rfl) ?_
  refine lv_sipush (v := 500) hx hb dX5_init_32 (by decide) ?_
  refine g_newI (N := 500) hx hb (hts (.arrayClass .int) (by decide +kernel)) hK.1 hP hD hS hA (by decide) (by decide) (Nat.le_of_ble_eq_true rfl) (Nat.le_of_ble_eq_true rfl) (Nat.le_of_ble_eq_true rfl) dX5_init_35 (fun q3 H hP hD hS => ?_)
  have hP : va_P G.1 vwCl ((h0, .inr (5, [.ref q1, .int 0, .int 12, .int 1, .int 0, .ref q2, .null, .int 0, .null, .null, .null, .int 0, .long 0, .int 0, .int 0, .int 0, .int 0, .int 0, .int 0, .int 0, .null])) :: ([(q1, .inl (G.2.1, 120, .inl (fun _ => 0)))] ++ [(q2, .inl (G.2.1, 50, .inl (fun _ => 0)))] ++ [(q3, .inl (G.2.1, 500, .inl (fun _ => 0)))])) H := hP
  have hD : va_D A ((h0, .inr (5, [.ref q1, .int 0, .int 12, .int 1, .int 0, .ref q2, .null, .int 0, .null, .null, .null, .int 0, .long 0, .int 0, .int 0, .int 0, .int 0, .int 0, .int 0, .int 0, .null])) :: ([(q1, .inl (G.2.1, 120, .inl (fun _ => 0)))] ++ [(q2, .inl (G.2.1, 50, .inl (fun _ => 0)))] ++ [(q3, .inl (G.2.1, 500, .inl (fun _ => 0)))])) := hD
  refine W.widen (k := 3) (n := 670) (Nat.le_of_ble_eq_true rfl) (Nat.le_of_ble_eq_true rfl) ?_
  refine va_putF (D := G.1) (ci := 5) (v := .ref q3) (ty := (.array .int)) (C := RX5) (T := TX5) (N := 21) hx hb hts i_X5_init_X5 tyX5 tyX5_ok nmX5 hown hK.1.1 hP hD hS 0 rfl rfl 6 (by decide) (hts (.fieldLink RX5 23 "WhisperRingModel" "book" "[I") (by decide +kernel)) (fun _ h9 => h9) rfl hin rfl (by decide +kernel) rfl rfl (Nat.le_of_ble_eq_true rfl) dX5_init_37 (fun H locs hP hD hS => ?_)
  have hP : va_P G.1 vwCl ((h0, .inr (5, [.ref q1, .int 0, .int 12, .int 1, .int 0, .ref q2, .ref q3, .int 0, .null, .null, .null, .int 0, .long 0, .int 0, .int 0, .int 0, .int 0, .int 0, .int 0, .int 0, .null])) :: ([(q1, .inl (G.2.1, 120, .inl (fun _ => 0)))] ++ [(q2, .inl (G.2.1, 50, .inl (fun _ => 0)))] ++ [(q3, .inl (G.2.1, 500, .inl (fun _ => 0)))])) H := hP
  have hD : va_D A ((h0, .inr (5, [.ref q1, .int 0, .int 12, .int 1, .int 0, .ref q2, .ref q3, .int 0, .null, .null, .null, .int 0, .long 0, .int 0, .int 0, .int 0, .int 0, .int 0, .int 0, .int 0, .null])) :: ([(q1, .inl (G.2.1, 120, .inl (fun _ => 0)))] ++ [(q2, .inl (G.2.1, 50, .inl (fun _ => 0)))] ++ [(q3, .inl (G.2.1, 500, .inl (fun _ => 0)))])) := hD
  refine lv_aload_n hx hb dX5_init_40 rfl (lv_at hl 0 rfl) ?_
  refine lv_sipush (v := 1102) hx hb dX5_init_41 (by decide) ?_
  refine g_newI (N := 1102) hx hb (hts (.arrayClass .int) (by decide +kernel)) hK.1 hP hD hS hA (by decide) (by decide) (Nat.le_of_ble_eq_true rfl) (Nat.le_of_ble_eq_true rfl) (Nat.le_of_ble_eq_true rfl) dX5_init_44 (fun q4 H hP hD hS => ?_)
  have hP : va_P G.1 vwCl ((h0, .inr (5, [.ref q1, .int 0, .int 12, .int 1, .int 0, .ref q2, .ref q3, .int 0, .null, .null, .null, .int 0, .long 0, .int 0, .int 0, .int 0, .int 0, .int 0, .int 0, .int 0, .null])) :: ([(q1, .inl (G.2.1, 120, .inl (fun _ => 0)))] ++ [(q2, .inl (G.2.1, 50, .inl (fun _ => 0)))] ++ [(q3, .inl (G.2.1, 500, .inl (fun _ => 0)))] ++ [(q4, .inl (G.2.1, 1102, .inl (fun _ => 0)))])) H := hP
  have hD : va_D A ((h0, .inr (5, [.ref q1, .int 0, .int 12, .int 1, .int 0, .ref q2, .ref q3, .int 0, .null, .null, .null, .int 0, .long 0, .int 0, .int 0, .int 0, .int 0, .int 0, .int 0, .int 0, .null])) :: ([(q1, .inl (G.2.1, 120, .inl (fun _ => 0)))] ++ [(q2, .inl (G.2.1, 50, .inl (fun _ => 0)))] ++ [(q3, .inl (G.2.1, 500, .inl (fun _ => 0)))] ++ [(q4, .inl (G.2.1, 1102, .inl (fun _ => 0)))])) := hD
  refine W.widen (k := 4) (n := 1772) (Nat.le_of_ble_eq_true rfl) (Nat.le_of_ble_eq_true rfl) ?_
  refine va_putF (D := G.1) (ci := 5) (v := .ref q4) (ty := (.array .int)) (C := RX5) (T := TX5) (N := 21) hx hb hts i_X5_init_X5 tyX5 tyX5_ok nmX5 hown hK.1.1 hP hD hS 0 rfl rfl 8 (by decide) (hts (.fieldLink RX5 26 "WhisperRingModel" "images" "[I") (by decide +kernel)) (fun _ h9 => h9) rfl hin rfl (by decide +kernel) rfl rfl (Nat.le_of_ble_eq_true rfl) dX5_init_46 (fun H locs hP hD hS => ?_)
  have hP : va_P G.1 vwCl ((h0, .inr (5, [.ref q1, .int 0, .int 12, .int 1, .int 0, .ref q2, .ref q3, .int 0, .ref q4, .null, .null, .int 0, .long 0, .int 0, .int 0, .int 0, .int 0, .int 0, .int 0, .int 0, .null])) :: ([(q1, .inl (G.2.1, 120, .inl (fun _ => 0)))] ++ [(q2, .inl (G.2.1, 50, .inl (fun _ => 0)))] ++ [(q3, .inl (G.2.1, 500, .inl (fun _ => 0)))] ++ [(q4, .inl (G.2.1, 1102, .inl (fun _ => 0)))])) H := hP
  have hD : va_D A ((h0, .inr (5, [.ref q1, .int 0, .int 12, .int 1, .int 0, .ref q2, .ref q3, .int 0, .ref q4, .null, .null, .int 0, .long 0, .int 0, .int 0, .int 0, .int 0, .int 0, .int 0, .int 0, .null])) :: ([(q1, .inl (G.2.1, 120, .inl (fun _ => 0)))] ++ [(q2, .inl (G.2.1, 50, .inl (fun _ => 0)))] ++ [(q3, .inl (G.2.1, 500, .inl (fun _ => 0)))] ++ [(q4, .inl (G.2.1, 1102, .inl (fun _ => 0)))])) := hD
  refine lv_aload_n hx hb dX5_init_49 rfl (lv_at hl 0 rfl) ?_
  refine lv_iconst (v := 2) hx hb dX5_init_50 (by decide) ?_
  refine g_newZ (N := 2) hx hb (hts (.arrayClass .boolean) (by decide +kernel)) hK.1 hP hD hS hA (by decide) (by decide) (Nat.le_of_ble_eq_true rfl) (Nat.le_of_ble_eq_true rfl) (Nat.le_of_ble_eq_true rfl) dX5_init_51 (fun q5 H hP hD hS => ?_)
  have hP : va_P G.1 vwCl ((h0, .inr (5, [.ref q1, .int 0, .int 12, .int 1, .int 0, .ref q2, .ref q3, .int 0, .ref q4, .null, .null, .int 0, .long 0, .int 0, .int 0, .int 0, .int 0, .int 0, .int 0, .int 0, .null])) :: ([(q1, .inl (G.2.1, 120, .inl (fun _ => 0)))] ++ [(q2, .inl (G.2.1, 50, .inl (fun _ => 0)))] ++ [(q3, .inl (G.2.1, 500, .inl (fun _ => 0)))] ++ [(q4, .inl (G.2.1, 1102, .inl (fun _ => 0)))] ++ [(q5, .inl (G.2.2.1, 2, .inl (fun _ => 0)))])) H := hP
  have hD : va_D A ((h0, .inr (5, [.ref q1, .int 0, .int 12, .int 1, .int 0, .ref q2, .ref q3, .int 0, .ref q4, .null, .null, .int 0, .long 0, .int 0, .int 0, .int 0, .int 0, .int 0, .int 0, .int 0, .null])) :: ([(q1, .inl (G.2.1, 120, .inl (fun _ => 0)))] ++ [(q2, .inl (G.2.1, 50, .inl (fun _ => 0)))] ++ [(q3, .inl (G.2.1, 500, .inl (fun _ => 0)))] ++ [(q4, .inl (G.2.1, 1102, .inl (fun _ => 0)))] ++ [(q5, .inl (G.2.2.1, 2, .inl (fun _ => 0)))])) := hD
  refine W.widen (k := 5) (n := 1774) (Nat.le_of_ble_eq_true rfl) (Nat.le_of_ble_eq_true rfl) ?_
  refine va_putF (D := G.1) (ci := 5) (v := .ref q5) (ty := (.array .boolean)) (C := RX5) (T := TX5) (N := 21) hx hb hts i_X5_init_X5 tyX5 tyX5_ok nmX5 hown hK.1.1 hP hD hS 0 rfl rfl 9 (by decide) (hts (.fieldLink RX5 29 "WhisperRingModel" "isKept" "[Z") (by decide +kernel)) (fun _ h9 => h9) rfl hin rfl (by decide +kernel) rfl rfl (Nat.le_of_ble_eq_true rfl) dX5_init_53 (fun H locs hP hD hS => ?_)
  have hP : va_P G.1 vwCl ((h0, .inr (5, [.ref q1, .int 0, .int 12, .int 1, .int 0, .ref q2, .ref q3, .int 0, .ref q4, .ref q5, .null, .int 0, .long 0, .int 0, .int 0, .int 0, .int 0, .int 0, .int 0, .int 0, .null])) :: ([(q1, .inl (G.2.1, 120, .inl (fun _ => 0)))] ++ [(q2, .inl (G.2.1, 50, .inl (fun _ => 0)))] ++ [(q3, .inl (G.2.1, 500, .inl (fun _ => 0)))] ++ [(q4, .inl (G.2.1, 1102, .inl (fun _ => 0)))] ++ [(q5, .inl (G.2.2.1, 2, .inl (fun _ => 0)))])) H := hP
  have hD : va_D A ((h0, .inr (5, [.ref q1, .int 0, .int 12, .int 1, .int 0, .ref q2, .ref q3, .int 0, .ref q4, .ref q5, .null, .int 0, .long 0, .int 0, .int 0, .int 0, .int 0, .int 0, .int 0, .int 0, .null])) :: ([(q1, .inl (G.2.1, 120, .inl (fun _ => 0)))] ++ [(q2, .inl (G.2.1, 50, .inl (fun _ => 0)))] ++ [(q3, .inl (G.2.1, 500, .inl (fun _ => 0)))] ++ [(q4, .inl (G.2.1, 1102, .inl (fun _ => 0)))] ++ [(q5, .inl (G.2.2.1, 2, .inl (fun _ => 0)))])) := hD
  refine lv_aload_n hx hb dX5_init_56 rfl (lv_at hl 0 rfl) ?_
  refine lv_bipush (v := 18) hx hb dX5_init_57 (by decide) ?_
  refine g_newI (N := 18) hx hb (hts (.arrayClass .int) (by decide +kernel)) hK.1 hP hD hS hA (by decide) (by decide) (Nat.le_of_ble_eq_true rfl) (Nat.le_of_ble_eq_true rfl) (Nat.le_of_ble_eq_true rfl) dX5_init_59 (fun q6 H hP hD hS => ?_)
  have hP : va_P G.1 vwCl ((h0, .inr (5, [.ref q1, .int 0, .int 12, .int 1, .int 0, .ref q2, .ref q3, .int 0, .ref q4, .ref q5, .null, .int 0, .long 0, .int 0, .int 0, .int 0, .int 0, .int 0, .int 0, .int 0, .null])) :: ([(q1, .inl (G.2.1, 120, .inl (fun _ => 0)))] ++ [(q2, .inl (G.2.1, 50, .inl (fun _ => 0)))] ++ [(q3, .inl (G.2.1, 500, .inl (fun _ => 0)))] ++ [(q4, .inl (G.2.1, 1102, .inl (fun _ => 0)))] ++ [(q5, .inl (G.2.2.1, 2, .inl (fun _ => 0)))] ++ [(q6, .inl (G.2.1, 18, .inl (fun _ => 0)))])) H := hP
  have hD : va_D A ((h0, .inr (5, [.ref q1, .int 0, .int 12, .int 1, .int 0, .ref q2, .ref q3, .int 0, .ref q4, .ref q5, .null, .int 0, .long 0, .int 0, .int 0, .int 0, .int 0, .int 0, .int 0, .int 0, .null])) :: ([(q1, .inl (G.2.1, 120, .inl (fun _ => 0)))] ++ [(q2, .inl (G.2.1, 50, .inl (fun _ => 0)))] ++ [(q3, .inl (G.2.1, 500, .inl (fun _ => 0)))] ++ [(q4, .inl (G.2.1, 1102, .inl (fun _ => 0)))] ++ [(q5, .inl (G.2.2.1, 2, .inl (fun _ => 0)))] ++ [(q6, .inl (G.2.1, 18, .inl (fun _ => 0)))])) := hD
  refine W.widen (k := 6) (n := 1792) (Nat.le_of_ble_eq_true rfl) (Nat.le_of_ble_eq_true rfl) ?_
  refine va_putF (D := G.1) (ci := 5) (v := .ref q6) (ty := (.array .int)) (C := RX5) (T := TX5) (N := 21) hx hb hts i_X5_init_X5 tyX5 tyX5_ok nmX5 hown hK.1.1 hP hD hS 0 rfl rfl 10 (by decide) (hts (.fieldLink RX5 33 "WhisperRingModel" "heard" "[I") (by decide +kernel)) (fun _ h9 => h9) rfl hin rfl (by decide +kernel) rfl rfl (Nat.le_of_ble_eq_true rfl) dX5_init_61 (fun H locs hP hD hS => ?_)
  have hP : va_P G.1 vwCl ((h0, .inr (5, [.ref q1, .int 0, .int 12, .int 1, .int 0, .ref q2, .ref q3, .int 0, .ref q4, .ref q5, .ref q6, .int 0, .long 0, .int 0, .int 0, .int 0, .int 0, .int 0, .int 0, .int 0, .null])) :: ([(q1, .inl (G.2.1, 120, .inl (fun _ => 0)))] ++ [(q2, .inl (G.2.1, 50, .inl (fun _ => 0)))] ++ [(q3, .inl (G.2.1, 500, .inl (fun _ => 0)))] ++ [(q4, .inl (G.2.1, 1102, .inl (fun _ => 0)))] ++ [(q5, .inl (G.2.2.1, 2, .inl (fun _ => 0)))] ++ [(q6, .inl (G.2.1, 18, .inl (fun _ => 0)))])) H := hP
  have hD : va_D A ((h0, .inr (5, [.ref q1, .int 0, .int 12, .int 1, .int 0, .ref q2, .ref q3, .int 0, .ref q4, .ref q5, .ref q6, .int 0, .long 0, .int 0, .int 0, .int 0, .int 0, .int 0, .int 0, .int 0, .null])) :: ([(q1, .inl (G.2.1, 120, .inl (fun _ => 0)))] ++ [(q2, .inl (G.2.1, 50, .inl (fun _ => 0)))] ++ [(q3, .inl (G.2.1, 500, .inl (fun _ => 0)))] ++ [(q4, .inl (G.2.1, 1102, .inl (fun _ => 0)))] ++ [(q5, .inl (G.2.2.1, 2, .inl (fun _ => 0)))] ++ [(q6, .inl (G.2.1, 18, .inl (fun _ => 0)))])) := hD
  refine lv_aload_n hx hb dX5_init_64 rfl (lv_at hl 0 rfl) ?_
  refine lv_bipush (v := 50) hx hb dX5_init_65 (by decide) ?_
  refine g_newI (N := 50) hx hb (hts (.arrayClass .int) (by decide +kernel)) hK.1 hP hD hS hA (by decide) (by decide) (Nat.le_of_ble_eq_true rfl) (Nat.le_of_ble_eq_true rfl) (Nat.le_of_ble_eq_true rfl) dX5_init_67 (fun q7 H hP hD hS => ?_)
  have hP : va_P G.1 vwCl ((h0, .inr (5, [.ref q1, .int 0, .int 12, .int 1, .int 0, .ref q2, .ref q3, .int 0, .ref q4, .ref q5, .ref q6, .int 0, .long 0, .int 0, .int 0, .int 0, .int 0, .int 0, .int 0, .int 0, .null])) :: ([(q1, .inl (G.2.1, 120, .inl (fun _ => 0)))] ++ [(q2, .inl (G.2.1, 50, .inl (fun _ => 0)))] ++ [(q3, .inl (G.2.1, 500, .inl (fun _ => 0)))] ++ [(q4, .inl (G.2.1, 1102, .inl (fun _ => 0)))] ++ [(q5, .inl (G.2.2.1, 2, .inl (fun _ => 0)))] ++ [(q6, .inl (G.2.1, 18, .inl (fun _ => 0)))] ++ [(q7, .inl (G.2.1, 50, .inl (fun _ => 0)))])) H := hP
  have hD : va_D A ((h0, .inr (5, [.ref q1, .int 0, .int 12, .int 1, .int 0, .ref q2, .ref q3, .int 0, .ref q4, .ref q5, .ref q6, .int 0, .long 0, .int 0, .int 0, .int 0, .int 0, .int 0, .int 0, .int 0, .null])) :: ([(q1, .inl (G.2.1, 120, .inl (fun _ => 0)))] ++ [(q2, .inl (G.2.1, 50, .inl (fun _ => 0)))] ++ [(q3, .inl (G.2.1, 500, .inl (fun _ => 0)))] ++ [(q4, .inl (G.2.1, 1102, .inl (fun _ => 0)))] ++ [(q5, .inl (G.2.2.1, 2, .inl (fun _ => 0)))] ++ [(q6, .inl (G.2.1, 18, .inl (fun _ => 0)))] ++ [(q7, .inl (G.2.1, 50, .inl (fun _ => 0)))])) := hD
  refine W.widen (k := 7) (n := 1842) (Nat.le_of_ble_eq_true rfl) (Nat.le_of_ble_eq_true rfl) ?_
  refine va_putF (D := G.1) (ci := 5) (v := .ref q7) (ty := (.array .int)) (C := RX5) (T := TX5) (N := 21) hx hb hts i_X5_init_X5 tyX5 tyX5_ok nmX5 hown hK.1.1 hP hD hS 0 rfl rfl 20 (by decide) (hts (.fieldLink RX5 36 "WhisperRingModel" "read" "[I") (by decide +kernel)) (fun _ h9 => h9) rfl hin rfl (by decide +kernel) rfl rfl (Nat.le_of_ble_eq_true rfl) dX5_init_69 (fun H locs hP hD hS => ?_)
  have hP : va_P G.1 vwCl ((h0, .inr (5, [.ref q1, .int 0, .int 12, .int 1, .int 0, .ref q2, .ref q3, .int 0, .ref q4, .ref q5, .ref q6, .int 0, .long 0, .int 0, .int 0, .int 0, .int 0, .int 0, .int 0, .int 0, .ref q7])) :: ([(q1, .inl (G.2.1, 120, .inl (fun _ => 0)))] ++ [(q2, .inl (G.2.1, 50, .inl (fun _ => 0)))] ++ [(q3, .inl (G.2.1, 500, .inl (fun _ => 0)))] ++ [(q4, .inl (G.2.1, 1102, .inl (fun _ => 0)))] ++ [(q5, .inl (G.2.2.1, 2, .inl (fun _ => 0)))] ++ [(q6, .inl (G.2.1, 18, .inl (fun _ => 0)))] ++ [(q7, .inl (G.2.1, 50, .inl (fun _ => 0)))])) H := hP
  have hD : va_D A ((h0, .inr (5, [.ref q1, .int 0, .int 12, .int 1, .int 0, .ref q2, .ref q3, .int 0, .ref q4, .ref q5, .ref q6, .int 0, .long 0, .int 0, .int 0, .int 0, .int 0, .int 0, .int 0, .int 0, .ref q7])) :: ([(q1, .inl (G.2.1, 120, .inl (fun _ => 0)))] ++ [(q2, .inl (G.2.1, 50, .inl (fun _ => 0)))] ++ [(q3, .inl (G.2.1, 500, .inl (fun _ => 0)))] ++ [(q4, .inl (G.2.1, 1102, .inl (fun _ => 0)))] ++ [(q5, .inl (G.2.2.1, 2, .inl (fun _ => 0)))] ++ [(q6, .inl (G.2.1, 18, .inl (fun _ => 0)))] ++ [(q7, .inl (G.2.1, 50, .inl (fun _ => 0)))])) := hD
  exact g_inret (w := fun u : Nat → Nat => wMd u G.2.1 G.2.2.1 md0) (at0 := fun u => u 0) (fun k => [h0, q1, q2, q3, q4, q5, q6, q7].getD k 0) hx hb hr hlocks rfl hP hD hS (Nat.le_refl _) (Nat.le_refl _) dX5_init_72
theorem i_X0_init_X0 : ∀ w ∈ wsX00, w ∈ wsX0_init := by decide +kernel
theorem i_X0_init_X2 : ∀ w ∈ wsX20, w ∈ wsX0_init := by decide +kernel
theorem h_X0_init : yX0_init.cls ≠ "java/lang/invoke/MethodHandle" ∧ yX0_init.cls ≠ "java/lang/invoke/VarHandle" ∧ (parseMethodDescriptor yX0_init.desc).map (fun d => d.parameters.length) = some 0 := by decide +kernel
set_option maxHeartbeats 4000000 in
set_option maxRecDepth 100000 in
theorem c_X0_init (lz : Launch) (G : gG) : gIn lz yX0_init wsX0_init 2 9 76 G 0 [.int 0, .int 0, .int 0, .null, .null, .null] (fun u : Nat → Nat => wHa u G.2.1 ha0) (fun u => u 0) := by
  refine g_in (by decide) rfl (by decide) ?_
  intro pz ez sz mz bz tz cz h0 hx hb hr hml hown hts hlocks hin hK A hAe hA hP hD hS ls hl
  have hP : va_P G.1 vwCl ((h0, .inr (0, [.int 0, .int 0, .int 0, .null, .null, .null])) :: ([])) sz.heap := hP
  have hD : va_D A ((h0, .inr (0, [.int 0, .int 0, .int 0, .null, .null, .null])) :: ([])) := hD
  refine lv_aload_n hx hb dX0_init_0 rfl (lv_at hl 0 rfl) ?_
  refine W.objInit hx hb hown (hts (.methodLink RX0 3 objectInit) (by decide +kernel)) (hts (.instanceMethod objectInit) (by decide +kernel)) (hts (.code objectInit ⟨#[0xb1]⟩ 1 none) (List.mem_of_getElem? (i := 3) rfl)) rfl (by rw [hml]; exact hl.1) rfl dX0_init_1 (Nat.le_of_ble_eq_true rfl) (Nat.le_of_ble_eq_true rfl) ?_
  refine W.eq (g2 := F0 mz 4 ls []) rfl ?_
  refine lv_aload_n hx hb dX0_init_4 rfl (lv_at hl 0 rfl) ?_
  refine lv_bipush (v := 12) hx hb dX0_init_5 (by decide) ?_
  refine va_put (D := G.1) (ci := 0) (v := .int 12) (ty := .int) (C := RX0) (T := TX0) (N := 6) hx hb hts i_X0_init_X0 tyX0 tyX0_ok nmX0 hown hK.1.1 hP hD hS 0 rfl rfl 0 (by decide) (hts (.fieldLink RX0 9 "WhisperRing$Hall" "places" "I") (by decide +kernel)) (fun _ h9 => h9) rfl (by decide +kernel) rfl rfl (Nat.le_of_ble_eq_true rfl) dX0_init_7 (fun H locs hP hD hS => ?_)
  have hP : va_P G.1 vwCl ((h0, .inr (0, [.int 12, .int 0, .int 0, .null, .null, .null])) :: ([])) H := hP
  have hD : va_D A ((h0, .inr (0, [.int 12, .int 0, .int 0, .null, .null, .null])) :: ([])) := hD
  refine lv_aload_n hx hb dX0_init_10 rfl (lv_at hl 0 rfl) ?_
  refine lv_iconst (v := 1) hx hb dX0_init_11 (by decide) ?_
  refine va_put (D := G.1) (ci := 0) (v := .int 1) (ty := .int) (C := RX0) (T := TX0) (N := 6) hx hb hts i_X0_init_X0 tyX0 tyX0_ok nmX0 hown hK.1.1 hP hD hS 0 rfl rfl 1 (by decide) (hts (.fieldLink RX0 15 "WhisperRing$Hall" "loss" "I") (by decide +kernel)) (fun _ h9 => h9) rfl (by decide +kernel) rfl rfl (Nat.le_of_ble_eq_true rfl) dX0_init_12 (fun H locs hP hD hS => ?_)
  have hP : va_P G.1 vwCl ((h0, .inr (0, [.int 12, .int 1, .int 0, .null, .null, .null])) :: ([])) H := hP
  have hD : va_D A ((h0, .inr (0, [.int 12, .int 1, .int 0, .null, .null, .null])) :: ([])) := hD
  refine lv_aload_n hx hb dX0_init_15 rfl (lv_at hl 0 rfl) ?_
  refine va_new (ci := 2) (fs := [.int 0, .int 0, .int 0, .int 0, .null, .null, .null, .null, .null, .null]) (C := RX2) (T := TX2) (N := 10) hx hb hts i_X0_init_X2 tyX2 tyX2_ok hown (hts (.classLink RX0 18 RX2) (by decide +kernel)) (hts (.instantiable RX2 10) (by decide +kernel)) (hts (.initialized RX2) (by decide +kernel)) hK.1.1 hP hD hS hA rfl (fun j hj => by rcases (show j = 0 ∨ j = 1 ∨ j = 2 ∨ j = 3 ∨ j = 4 ∨ j = 5 ∨ j = 6 ∨ j = 7 ∨ j = 8 ∨ j = 9 by omega) with rfl | rfl | rfl | rfl | rfl | rfl | rfl | rfl | rfl | rfl <;> rfl) (Nat.le_of_ble_eq_true rfl) (Nat.le_of_ble_eq_true rfl) dX0_init_16 (fun q1 H hP hD hS => ?_)
  refine W.widen (k := 1) (n := 10) (Nat.le_of_ble_eq_true rfl) (Nat.le_of_ble_eq_true rfl) ?_
  refine lv_dup hx hb dX0_init_19 rfl ?_
  refine g_mkN (ws := (h0, .inr (0, [.int 12, .int 1, .int 0, .null, .null, .null])) :: ([])) (rest := [.ref q1, .ref h0]) (nL := 1) hx hb hml hown hts (c_X2_init lz G) gX0_init_X2_init_n20 rfl rfl hK.2.1 (hts (.initialized RX2) (by decide +kernel)) (hts (.instanceMethod yX2_init) (by decide +kernel)) h_X2_init ⟨(Nat.le_of_ble_eq_true rfl), (Nat.le_of_ble_eq_true rfl)⟩ hK hP hD hS hA hl.1 (Nat.le_of_ble_eq_true rfl) ⟨(Nat.le_of_ble_eq_true rfl), (Nat.le_of_ble_eq_true rfl)⟩ dX0_init_20 (fun u2 H locs hu hPn hDn hS => ?_)
  subst hu
  have hP := hPn
  have hD := hDn
  have hP : va_P G.1 vwCl ((h0, .inr (0, [.int 12, .int 1, .int 0, .null, .null, .null])) :: (wMo u2 G.2.1 mo0)) H := hP
  have hD : va_D A ((h0, .inr (0, [.int 12, .int 1, .int 0, .null, .null, .null])) :: (wMo u2 G.2.1 mo0)) := hD
  refine W.widen (k := 7) (n := 60) (Nat.le_of_ble_eq_true rfl) (Nat.le_of_ble_eq_true rfl) ?_
  refine va_putF (D := G.1) (ci := 0) (v := .ref (u2 0)) (ty := (.object "WhisperRing$Moment")) (C := RX0) (T := TX0) (N := 6) hx hb hts i_X0_init_X0 tyX0 tyX0_ok nmX0 hown hK.1.1 hP hD hS 0 rfl rfl 3 (by decide) (hts (.fieldLink RX0 21 "WhisperRing$Hall" "now" "LWhisperRing$Moment;") (by decide +kernel)) (fun _ h9 => h9) rfl hin rfl (by decide +kernel) rfl rfl (Nat.le_of_ble_eq_true rfl) dX0_init_23 (fun H locs hP hD hS => ?_)
  have hP : va_P G.1 vwCl ((h0, .inr (0, [.int 12, .int 1, .int 0, .ref (u2 0), .null, .null])) :: (wMo u2 G.2.1 mo0)) H := hP
  have hD : va_D A ((h0, .inr (0, [.int 12, .int 1, .int 0, .ref (u2 0), .null, .null])) :: (wMo u2 G.2.1 mo0)) := hD
  refine lv_aload_n hx hb dX0_init_26 rfl (lv_at hl 0 rfl) ?_
  refine lv_bipush (v := 8) hx hb dX0_init_27 (by decide) ?_
  refine g_newI (N := 8) hx hb (hts (.arrayClass .int) (by decide +kernel)) hK.1 hP hD hS hA (by decide) (by decide) (Nat.le_of_ble_eq_true rfl) (Nat.le_of_ble_eq_true rfl) (Nat.le_of_ble_eq_true rfl) dX0_init_29 (fun q3 H hP hD hS => ?_)
  have hP : va_P G.1 vwCl ((h0, .inr (0, [.int 12, .int 1, .int 0, .ref (u2 0), .null, .null])) :: (wMo u2 G.2.1 mo0 ++ [(q3, .inl (G.2.1, 8, .inl (fun _ => 0)))])) H := hP
  have hD : va_D A ((h0, .inr (0, [.int 12, .int 1, .int 0, .ref (u2 0), .null, .null])) :: (wMo u2 G.2.1 mo0 ++ [(q3, .inl (G.2.1, 8, .inl (fun _ => 0)))])) := hD
  refine W.widen (k := 8) (n := 68) (Nat.le_of_ble_eq_true rfl) (Nat.le_of_ble_eq_true rfl) ?_
  refine va_putF (D := G.1) (ci := 0) (v := .ref q3) (ty := (.array .int)) (C := RX0) (T := TX0) (N := 6) hx hb hts i_X0_init_X0 tyX0 tyX0_ok nmX0 hown hK.1.1 hP hD hS 0 rfl rfl 4 (by decide) (hts (.fieldLink RX0 25 "WhisperRing$Hall" "at" "[I") (by decide +kernel)) (fun _ h9 => h9) rfl hin rfl (by decide +kernel) rfl rfl (Nat.le_of_ble_eq_true rfl) dX0_init_31 (fun H locs hP hD hS => ?_)
  have hP : va_P G.1 vwCl ((h0, .inr (0, [.int 12, .int 1, .int 0, .ref (u2 0), .ref q3, .null])) :: (wMo u2 G.2.1 mo0 ++ [(q3, .inl (G.2.1, 8, .inl (fun _ => 0)))])) H := hP
  have hD : va_D A ((h0, .inr (0, [.int 12, .int 1, .int 0, .ref (u2 0), .ref q3, .null])) :: (wMo u2 G.2.1 mo0 ++ [(q3, .inl (G.2.1, 8, .inl (fun _ => 0)))])) := hD
  refine lv_aload_n hx hb dX0_init_34 rfl (lv_at hl 0 rfl) ?_
  refine lv_bipush (v := 8) hx hb dX0_init_35 (by decide) ?_
  refine g_newI (N := 8) hx hb (hts (.arrayClass .int) (by decide +kernel)) hK.1 hP hD hS hA (by decide) (by decide) (Nat.le_of_ble_eq_true rfl) (Nat.le_of_ble_eq_true rfl) (Nat.le_of_ble_eq_true rfl) dX0_init_37 (fun q4 H hP hD hS => ?_)
  have hP : va_P G.1 vwCl ((h0, .inr (0, [.int 12, .int 1, .int 0, .ref (u2 0), .ref q3, .null])) :: (wMo u2 G.2.1 mo0 ++ [(q3, .inl (G.2.1, 8, .inl (fun _ => 0)))] ++ [(q4, .inl (G.2.1, 8, .inl (fun _ => 0)))])) H := hP
  have hD : va_D A ((h0, .inr (0, [.int 12, .int 1, .int 0, .ref (u2 0), .ref q3, .null])) :: (wMo u2 G.2.1 mo0 ++ [(q3, .inl (G.2.1, 8, .inl (fun _ => 0)))] ++ [(q4, .inl (G.2.1, 8, .inl (fun _ => 0)))])) := hD
  refine W.widen (k := 9) (n := 76) (Nat.le_of_ble_eq_true rfl) (Nat.le_of_ble_eq_true rfl) ?_
  refine va_putF (D := G.1) (ci := 0) (v := .ref q4) (ty := (.array .int)) (C := RX0) (T := TX0) (N := 6) hx hb hts i_X0_init_X0 tyX0 tyX0_ok nmX0 hown hK.1.1 hP hD hS 0 rfl rfl 5 (by decide) (hts (.fieldLink RX0 29 "WhisperRing$Hall" "strength" "[I") (by decide +kernel)) (fun _ h9 => h9) rfl hin rfl (by decide +kernel) rfl rfl (Nat.le_of_ble_eq_true rfl) dX0_init_39 (fun H locs hP hD hS => ?_)
  have hP : va_P G.1 vwCl ((h0, .inr (0, [.int 12, .int 1, .int 0, .ref (u2 0), .ref q3, .ref q4])) :: (wMo u2 G.2.1 mo0 ++ [(q3, .inl (G.2.1, 8, .inl (fun _ => 0)))] ++ [(q4, .inl (G.2.1, 8, .inl (fun _ => 0)))])) H := hP
  have hD : va_D A ((h0, .inr (0, [.int 12, .int 1, .int 0, .ref (u2 0), .ref q3, .ref q4])) :: (wMo u2 G.2.1 mo0 ++ [(q3, .inl (G.2.1, 8, .inl (fun _ => 0)))] ++ [(q4, .inl (G.2.1, 8, .inl (fun _ => 0)))])) := hD
  exact g_inret (w := fun u : Nat → Nat => wHa u G.2.1 ha0) (at0 := fun u => u 0) (fun k => [h0, u2 0, u2 1, u2 2, u2 3, u2 4, u2 5, u2 6, q3, q4].getD k 0) hx hb hr hlocks rfl hP hD hS (Nat.le_refl _) (Nat.le_refl _) dX0_init_42
