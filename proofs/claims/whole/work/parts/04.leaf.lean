theorem h_X4_within : yX4_within.cls ≠ "java/lang/invoke/MethodHandle" ∧ yX4_within.cls ≠ "java/lang/invoke/VarHandle" ∧ (parseMethodDescriptor yX4_within.desc).map (fun d => d.parameters.length) = some 3 := by decide +kernel
set_option maxHeartbeats 4000000 in
set_option maxRecDepth 100000 in
theorem c_X4_within (lz : Launch) (G : gG) (x lo hi : Int32) : gRd lz yX4_within wsX4_within 0 G [.int x, .int lo, .int hi] ([]) (bI (wIn x lo hi)) := by
  refine g_rd (by decide) rfl (Nat.le_of_ble_eq_true rfl) ?_
  intro pz ez sz mz bz tz cz hx hb hr hml hown hts hlocks hP hK ls hl
  have hl : lv_has ls 3 [(0, .int x), (1, .int lo), (2, .int hi)] := hl
  refine lv_iload_n hx hb dX4_within_0 rfl (lv_at hl 0 rfl) ?_
  refine lv_iload_n hx hb dX4_within_1 rfl (lv_at hl 1 rfl) ?_
  refine lv_icmp_lt (tgt := 14) hx hb dX4_within_2 (by decide) (fun c_1 => ?_) (fun c_1 => ?_)
  · skip
    refine lv_iconst (v := 0) hx hb dX4_within_14 (by decide) ?_
    exact g_rz hx hb hr hlocks dX4_within_15 (by simp [wIn, bI, c_1])
  · skip
    refine lv_iload_n hx hb dX4_within_5 rfl (lv_at hl 0 rfl) ?_
    refine lv_iload_n hx hb dX4_within_6 rfl (lv_at hl 2 rfl) ?_
    refine lv_icmp_gt (tgt := 14) hx hb dX4_within_7 (by decide) (fun c_2 => ?_) (fun c_2 => ?_)
    · skip
      refine lv_iconst (v := 0) hx hb dX4_within_14 (by decide) ?_
      exact g_rz hx hb hr hlocks dX4_within_15 (by simp [wIn, bI, c_1, c_2])
    · skip
      refine lv_iconst (v := 1) hx hb dX4_within_10 (by decide) ?_
      refine lv_goto (tgt := 15) hx hb dX4_within_11 (by decide) ?_
      exact g_rz hx hb hr hlocks dX4_within_15 (by simp [wIn, bI, c_1, c_2])

theorem h_J9_floorMod_7cf53 : yJ9_floorMod_7cf53.cls ≠ "java/lang/invoke/MethodHandle" ∧ yJ9_floorMod_7cf53.cls ≠ "java/lang/invoke/VarHandle" ∧ (parseMethodDescriptor yJ9_floorMod_7cf53.desc).map (fun d => d.parameters.length) = some 2 := by decide +kernel
set_option maxHeartbeats 4000000 in
set_option maxRecDepth 100000 in
theorem c_J9_floorMod_7cf53 (lz : Launch) (G : gG) (x y : Int32) (hy : ¬ y = 0) : gRd lz yJ9_floorMod_7cf53 wsJ9_floorMod_7cf53 0 G [.int x, .int y] ([]) (jFm x y) := by
  refine g_rdJ (by decide +kernel) rfl (Nat.le_of_ble_eq_true rfl) ?_
  intro pz ez sz mz bz tz cz hx hb hr hml hown hts hlocks hP hK ls hl
  have hl : lv_has ls 3 [(0, .int x), (1, .int y)] := hl
  refine lv_iload_n hx hb dJ9_floorMod_7cf53_0 rfl (lv_at hl 0 rfl) ?_
  refine lv_iload_n hx hb dJ9_floorMod_7cf53_1 rfl (lv_at hl 1 rfl) ?_
  refine lv_irem hx hb dJ9_floorMod_7cf53_2 (by assumption) ?_
  refine lv_istore_n (lv' := [(2, .int (x - x / y * y)), (0, .int x), (1, .int y)]) hx hb dJ9_floorMod_7cf53_3 rfl hl (by decide) rfl (fun ls hl => ?_)
  refine lv_iload_n hx hb dJ9_floorMod_7cf53_4 rfl (lv_at hl 1 rfl) ?_
  refine lv_iload_n hx hb dJ9_floorMod_7cf53_5 rfl (lv_at hl 2 rfl) ?_
  refine lv_ixor hx hb dJ9_floorMod_7cf53_6 ?_
  refine lv_if_ge (tgt := 18) hx hb dJ9_floorMod_7cf53_7 (by decide) (fun c_1 => ?_) (fun c_1 => ?_)
  · skip
    have c_1 := gl_le c_1
    refine lv_iload_n hx hb dJ9_floorMod_7cf53_18 rfl (lv_at hl 0 rfl) ?_
    exact g_ri hx hb hr hlocks dJ9_floorMod_7cf53_19 (by first | rfl | (simp only [jFm, c_1, bI, if_true, if_false, reduceIte, Bool.false_eq_true, ite_true, ite_false]; done) | (simp [jFm, c_1, bI]; done))
  · skip
    have c_1 := gl_nle c_1
    refine lv_iload_n hx hb dJ9_floorMod_7cf53_10 rfl (lv_at hl 0 rfl) ?_
    refine lv_if_eq (tgt := 18) hx hb dJ9_floorMod_7cf53_11 (by decide) (fun c_2 => ?_) (fun c_2 => ?_)
    · skip
      refine lv_iload_n hx hb dJ9_floorMod_7cf53_18 rfl (lv_at hl 0 rfl) ?_
      exact g_ri hx hb hr hlocks dJ9_floorMod_7cf53_19 (by first | rfl | (simp only [jFm, c_1, c_2, bI, if_true, if_false, reduceIte, Bool.false_eq_true, ite_true, ite_false]; done) | (simp [jFm, c_1, c_2, bI]; done))
    · skip
      refine lv_iload_n hx hb dJ9_floorMod_7cf53_14 rfl (lv_at hl 0 rfl) ?_
      refine lv_iload_n hx hb dJ9_floorMod_7cf53_15 rfl (lv_at hl 2 rfl) ?_
      refine lv_iadd hx hb dJ9_floorMod_7cf53_16 ?_
      exact g_ri hx hb hr hlocks dJ9_floorMod_7cf53_17 (by first | rfl | (simp only [jFm, c_1, c_2, bI, if_true, if_false, reduceIte, Bool.false_eq_true, ite_true, ite_false]; done) | (simp [jFm, c_1, c_2, bI]; done))

theorem h_J6_bitCount_0f7a4 : yJ6_bitCount_0f7a4.cls ≠ "java/lang/invoke/MethodHandle" ∧ yJ6_bitCount_0f7a4.cls ≠ "java/lang/invoke/VarHandle" ∧ (parseMethodDescriptor yJ6_bitCount_0f7a4.desc).map (fun d => d.parameters.length) = some 1 := by decide +kernel
set_option maxHeartbeats 4000000 in
set_option maxRecDepth 100000 in
theorem c_J6_bitCount_0f7a4 (lz : Launch) (G : gG) (x : Int32) : gRd lz yJ6_bitCount_0f7a4 wsJ6_bitCount_0f7a4 0 G [.int x] ([]) (jBc x) := by
  refine g_rdJ (by decide +kernel) rfl (Nat.le_of_ble_eq_true rfl) ?_
  intro pz ez sz mz bz tz cz hx hb hr hml hown hts hlocks hP hK ls hl
  have hl : lv_has ls 1 [(0, .int x)] := hl
  have fk265 := hts (.constant RJ6 265 1431655765) (by decide +kernel)
  have fk266 := hts (.constant RJ6 266 858993459) (by decide +kernel)
  have fk267 := hts (.constant RJ6 267 252645135) (by decide +kernel)
  refine lv_iload_n hx hb dJ6_bitCount_0f7a4_0 rfl (lv_at hl 0 rfl) ?_
  refine lv_iload_n hx hb dJ6_bitCount_0f7a4_1 rfl (lv_at hl 0 rfl) ?_
  refine lv_iconst (v := 1) hx hb dJ6_bitCount_0f7a4_2 (by decide) ?_
  refine lv_iushr (v := (x.toUInt32 >>> ((1 : Int32).toUInt32 &&& Int32.toUInt32 31)).toInt32) hx hb dJ6_bitCount_0f7a4_3 rfl ?_
  refine lv_ldcw (v := 1431655765) hx hb hown fk265 dJ6_bitCount_0f7a4_4 ?_
  refine lv_iand hx hb dJ6_bitCount_0f7a4_7 ?_
  refine lv_isub hx hb dJ6_bitCount_0f7a4_8 ?_
  refine g_top (y := jB1 x) rfl ?_
  refine lv_istore_n (lv' := [(0, .int (jB1 x))]) hx hb dJ6_bitCount_0f7a4_9 rfl hl (by decide) rfl (fun ls hl => ?_)
  refine lv_iload_n hx hb dJ6_bitCount_0f7a4_10 rfl (lv_at hl 0 rfl) ?_
  refine lv_ldcw (v := 858993459) hx hb hown fk266 dJ6_bitCount_0f7a4_11 ?_
  refine lv_iand hx hb dJ6_bitCount_0f7a4_14 ?_
  refine lv_iload_n hx hb dJ6_bitCount_0f7a4_15 rfl (lv_at hl 0 rfl) ?_
  refine lv_iconst (v := 2) hx hb dJ6_bitCount_0f7a4_16 (by decide) ?_
  refine lv_iushr (v := ((jB1 x).toUInt32 >>> ((2 : Int32).toUInt32 &&& Int32.toUInt32 31)).toInt32) hx hb dJ6_bitCount_0f7a4_17 rfl ?_
  refine lv_ldcw (v := 858993459) hx hb hown fk266 dJ6_bitCount_0f7a4_18 ?_
  refine lv_iand hx hb dJ6_bitCount_0f7a4_21 ?_
  refine lv_iadd hx hb dJ6_bitCount_0f7a4_22 ?_
  refine g_top (y := jB2 (jB1 x)) rfl ?_
  refine lv_istore_n (lv' := [(0, .int (jB2 (jB1 x)))]) hx hb dJ6_bitCount_0f7a4_23 rfl hl (by decide) rfl (fun ls hl => ?_)
  refine lv_iload_n hx hb dJ6_bitCount_0f7a4_24 rfl (lv_at hl 0 rfl) ?_
  refine lv_iload_n hx hb dJ6_bitCount_0f7a4_25 rfl (lv_at hl 0 rfl) ?_
  refine lv_iconst (v := 4) hx hb dJ6_bitCount_0f7a4_26 (by decide) ?_
  refine lv_iushr (v := ((jB2 (jB1 x)).toUInt32 >>> ((4 : Int32).toUInt32 &&& Int32.toUInt32 31)).toInt32) hx hb dJ6_bitCount_0f7a4_27 rfl ?_
  refine lv_iadd hx hb dJ6_bitCount_0f7a4_28 ?_
  refine lv_ldcw (v := 252645135) hx hb hown fk267 dJ6_bitCount_0f7a4_29 ?_
  refine lv_iand hx hb dJ6_bitCount_0f7a4_32 ?_
  refine g_top (y := jB3 (jB2 (jB1 x))) rfl ?_
  refine lv_istore_n (lv' := [(0, .int (jB3 (jB2 (jB1 x))))]) hx hb dJ6_bitCount_0f7a4_33 rfl hl (by decide) rfl (fun ls hl => ?_)
  refine lv_iload_n hx hb dJ6_bitCount_0f7a4_34 rfl (lv_at hl 0 rfl) ?_
  refine lv_iload_n hx hb dJ6_bitCount_0f7a4_35 rfl (lv_at hl 0 rfl) ?_
  refine lv_bipush (v := 8) hx hb dJ6_bitCount_0f7a4_36 (by decide) ?_
  refine lv_iushr (v := ((jB3 (jB2 (jB1 x))).toUInt32 >>> ((8 : Int32).toUInt32 &&& Int32.toUInt32 31)).toInt32) hx hb dJ6_bitCount_0f7a4_38 rfl ?_
  refine lv_iadd hx hb dJ6_bitCount_0f7a4_39 ?_
  refine g_top (y := jB4 (jB3 (jB2 (jB1 x)))) rfl ?_
  refine lv_istore_n (lv' := [(0, .int (jB4 (jB3 (jB2 (jB1 x)))))]) hx hb dJ6_bitCount_0f7a4_40 rfl hl (by decide) rfl (fun ls hl => ?_)
  refine lv_iload_n hx hb dJ6_bitCount_0f7a4_41 rfl (lv_at hl 0 rfl) ?_
  refine lv_iload_n hx hb dJ6_bitCount_0f7a4_42 rfl (lv_at hl 0 rfl) ?_
  refine lv_bipush (v := 16) hx hb dJ6_bitCount_0f7a4_43 (by decide) ?_
  refine lv_iushr (v := ((jB4 (jB3 (jB2 (jB1 x)))).toUInt32 >>> ((16 : Int32).toUInt32 &&& Int32.toUInt32 31)).toInt32) hx hb dJ6_bitCount_0f7a4_45 rfl ?_
  refine lv_iadd hx hb dJ6_bitCount_0f7a4_46 ?_
  refine g_top (y := jB5 (jB4 (jB3 (jB2 (jB1 x))))) rfl ?_
  refine lv_istore_n (lv' := [(0, .int (jB5 (jB4 (jB3 (jB2 (jB1 x))))))]) hx hb dJ6_bitCount_0f7a4_47 rfl hl (by decide) rfl (fun ls hl => ?_)
  refine lv_iload_n hx hb dJ6_bitCount_0f7a4_48 rfl (lv_at hl 0 rfl) ?_
  refine lv_bipush (v := 63) hx hb dJ6_bitCount_0f7a4_49 (by decide) ?_
  refine lv_iand hx hb dJ6_bitCount_0f7a4_51 ?_
  exact g_ri hx hb hr hlocks dJ6_bitCount_0f7a4_52 rfl

theorem i_X2_isHushed_X2 : ∀ w ∈ wsX20, w ∈ wsX2_isHushed := by decide +kernel
theorem h_X2_isHushed : yX2_isHushed.cls = RX2 ∧ yX2_isHushed.cls ≠ "java/lang/invoke/MethodHandle" ∧ yX2_isHushed.cls ≠ "java/lang/invoke/VarHandle" ∧ (parseMethodDescriptor yX2_isHushed.desc).map (fun d => d.parameters.length) = some 1 := by decide +kernel
set_option maxHeartbeats 4000000 in
set_option maxRecDepth 100000 in
theorem c_X2_isHushed (lz : Launch) (G : gG) (a : Nat → Nat) (m : MoS) (s : Int32) : gRd lz yX2_isHushed wsX2_isHushed 0 G [.ref (a 0), .int s] (wMo a G.2.1 m) (bI (hasB m.hushed s)) := by
  refine g_rd (by decide) rfl (Nat.le_of_ble_eq_true rfl) ?_
  intro pz ez sz mz bz tz cz hx hb hr hml hown hts hlocks hP hK ls hl
  have hl : lv_has ls 2 [(0, .ref (a 0)), (1, .int s)] := hl
  have f37 := hts (.fieldLink RX2 37 "WhisperRing$Moment" "hushed" "I") (by decide +kernel)
  refine lv_aload_n hx hb dX2_isHushed_0 rfl (lv_at hl 0 rfl) ?_
  refine va_get (D := G.1) (ci := 2) (v := .int m.hushed) (C := RX2) (T := TX2) (N := 10) hx hb hts i_X2_isHushed_X2 hown hK.1 hP 0 rfl rfl 2 (by decide) f37 (fun _ h9 => h9) rfl dX2_isHushed_1 ?_
  refine lv_iload_n hx hb dX2_isHushed_4 rfl (lv_at hl 1 rfl) ?_
  refine lv_ishr hx hb dX2_isHushed_5 ?_
  refine lv_iconst (v := 1) hx hb dX2_isHushed_6 (by decide) ?_
  refine lv_iand hx hb dX2_isHushed_7 ?_
  refine lv_iconst (v := 1) hx hb dX2_isHushed_8 (by decide) ?_
  refine lv_icmp_ne (tgt := 16) hx hb dX2_isHushed_9 (by decide) (fun c_1 => ?_) (fun c_1 => ?_)
  · skip
    refine lv_iconst (v := 0) hx hb dX2_isHushed_16 (by decide) ?_
    exact g_rz hx hb hr hlocks dX2_isHushed_17 (by simp [hasB, bI, c_1])
  · skip
    refine lv_iconst (v := 1) hx hb dX2_isHushed_12 (by decide) ?_
    refine lv_goto (tgt := 17) hx hb dX2_isHushed_13 (by decide) ?_
    exact g_rz hx hb hr hlocks dX2_isHushed_17 (by simp [hasB, bI, c_1])

theorem i_X0_hasPlace_X0 : ∀ w ∈ wsX00, w ∈ wsX0_hasPlace := by decide +kernel
theorem h_X0_hasPlace : yX0_hasPlace.cls = RX0 ∧ yX0_hasPlace.cls ≠ "java/lang/invoke/MethodHandle" ∧ yX0_hasPlace.cls ≠ "java/lang/invoke/VarHandle" ∧ (parseMethodDescriptor yX0_hasPlace.desc).map (fun d => d.parameters.length) = some 1 := by decide +kernel
set_option maxHeartbeats 4000000 in
set_option maxRecDepth 100000 in
theorem c_X0_hasPlace (lz : Launch) (G : gG) (a : Nat → Nat) (h : HaS) (p : Int32) : gRd lz yX0_hasPlace wsX0_hasPlace 1 G [.ref (a 0), .int p] (wHa a G.2.1 h) (bI (wIn p 0 (h.pl - 1))) := by
  refine g_rd (by decide) rfl (Nat.le_of_ble_eq_true rfl) ?_
  intro pz ez sz mz bz tz cz hx hb hr hml hown hts hlocks hP hK ls hl
  have hl : lv_has ls 2 [(0, .ref (a 0)), (1, .int p)] := hl
  have f9 := hts (.fieldLink RX0 9 "WhisperRing$Hall" "places" "I") (by decide +kernel)
  have fniX4 := hts (.initialized RX4) (by decide +kernel)
  have fnsX4_within := hts (.static yX4_within) (by decide +kernel)
  refine lv_iload_n hx hb dX0_hasPlace_0 rfl (lv_at hl 1 rfl) ?_
  refine lv_iconst (v := 0) hx hb dX0_hasPlace_1 (by decide) ?_
  refine lv_aload_n hx hb dX0_hasPlace_2 rfl (lv_at hl 0 rfl) ?_
  refine va_get (D := G.1) (ci := 0) (v := .int h.pl) (C := RX0) (T := TX0) (N := 6) hx hb hts i_X0_hasPlace_X0 hown hK.1 hP 0 rfl rfl 0 (by decide) f9 (fun _ h9 => h9) rfl dX0_hasPlace_3 ?_
  refine lv_iconst (v := 1) hx hb dX0_hasPlace_6 (by decide) ?_
  refine lv_isub hx hb dX0_hasPlace_7 ?_
  refine g_rdN (As := [.int p, .int 0, .int (h.pl - 1)]) (rest := []) (nL := 2) hx hb hml hown hts (c_X4_within lz G p 0 (h.pl - 1)) gX0_hasPlace_X4_within_n38 rfl hK.2.1 fniX4 fnsX4_within h_X4_within ⟨Nat.le_of_ble_eq_true rfl, Nat.le_of_ble_eq_true rfl⟩ hK gP_nil rfl hl.1 rfl (Nat.le_of_ble_eq_true rfl) ⟨Nat.le_refl _, Nat.le_refl _⟩ dX0_hasPlace_8 ?_
  exact g_rz hx hb hr hlocks dX0_hasPlace_11 rfl

theorem i_X0_hasSaying_X0 : ∀ w ∈ wsX00, w ∈ wsX0_hasSaying := by decide +kernel
theorem i_X0_hasSaying_X2 : ∀ w ∈ wsX20, w ∈ wsX0_hasSaying := by decide +kernel
theorem h_X0_hasSaying : yX0_hasSaying.cls = RX0 ∧ yX0_hasSaying.cls ≠ "java/lang/invoke/MethodHandle" ∧ yX0_hasSaying.cls ≠ "java/lang/invoke/VarHandle" ∧ (parseMethodDescriptor yX0_hasSaying.desc).map (fun d => d.parameters.length) = some 1 := by decide +kernel
set_option maxHeartbeats 4000000 in
set_option maxRecDepth 100000 in
theorem c_X0_hasSaying (lz : Launch) (G : gG) (a : Nat → Nat) (h : HaS) (s : Int32) : gRd lz yX0_hasSaying wsX0_hasSaying 1 G [.ref (a 0), .int s] (wHa a G.2.1 h) (bI (wIn s 0 (h.mo.sayings - 1))) := by
  refine g_rd (by decide) rfl (Nat.le_of_ble_eq_true rfl) ?_
  intro pz ez sz mz bz tz cz hx hb hr hml hown hts hlocks hP hK ls hl
  have hl : lv_has ls 2 [(0, .ref (a 0)), (1, .int s)] := hl
  have f21 := hts (.fieldLink RX0 21 "WhisperRing$Hall" "now" "LWhisperRing$Moment;") (by decide +kernel)
  have f42 := hts (.fieldLink RX0 42 "WhisperRing$Moment" "sayings" "I") (by decide +kernel)
  have fniX4 := hts (.initialized RX4) (by decide +kernel)
  have fnsX4_within := hts (.static yX4_within) (by decide +kernel)
  refine lv_iload_n hx hb dX0_hasSaying_0 rfl (lv_at hl 1 rfl) ?_
  refine lv_iconst (v := 0) hx hb dX0_hasSaying_1 (by decide) ?_
  refine lv_aload_n hx hb dX0_hasSaying_2 rfl (lv_at hl 0 rfl) ?_
  refine va_get (D := G.1) (ci := 0) (v := .ref (a 1)) (C := RX0) (T := TX0) (N := 6) hx hb hts i_X0_hasSaying_X0 hown hK.1 hP 0 rfl rfl 3 (by decide) f21 (fun _ h9 => h9) rfl dX0_hasSaying_3 ?_
  refine va_get (D := G.1) (ci := 2) (v := .int h.mo.sayings) (C := RX2) (T := TX2) (N := 10) hx hb hts i_X0_hasSaying_X2 hown hK.1 hP 1 rfl rfl 1 (by decide) f42 (fun _ h9 => h9) rfl dX0_hasSaying_6 ?_
  refine lv_iconst (v := 1) hx hb dX0_hasSaying_9 (by decide) ?_
  refine lv_isub hx hb dX0_hasSaying_10 ?_
  refine g_rdN (As := [.int s, .int 0, .int (h.mo.sayings - 1)]) (rest := []) (nL := 2) hx hb hml hown hts (c_X4_within lz G s 0 (h.mo.sayings - 1)) gX0_hasSaying_X4_within_n38 rfl hK.2.1 fniX4 fnsX4_within h_X4_within ⟨Nat.le_of_ble_eq_true rfl, Nat.le_of_ble_eq_true rfl⟩ hK gP_nil rfl hl.1 rfl (Nat.le_of_ble_eq_true rfl) ⟨Nat.le_refl _, Nat.le_refl _⟩ dX0_hasSaying_11 ?_
  exact g_rz hx hb hr hlocks dX0_hasSaying_14 rfl

theorem i_X0_isNiche_X0 : ∀ w ∈ wsX00, w ∈ wsX0_isNiche := by decide +kernel
theorem h_X0_isNiche : yX0_isNiche.cls = RX0 ∧ yX0_isNiche.cls ≠ "java/lang/invoke/MethodHandle" ∧ yX0_isNiche.cls ≠ "java/lang/invoke/VarHandle" ∧ (parseMethodDescriptor yX0_isNiche.desc).map (fun d => d.parameters.length) = some 1 := by decide +kernel
set_option maxHeartbeats 4000000 in
set_option maxRecDepth 100000 in
theorem c_X0_isNiche (lz : Launch) (G : gG) (a : Nat → Nat) (h : HaS) (p : Int32) : gRd lz yX0_isNiche wsX0_isNiche 0 G [.ref (a 0), .int p] (wHa a G.2.1 h) (bI (hasB h.nich p)) := by
  refine g_rd (by decide) rfl (Nat.le_of_ble_eq_true rfl) ?_
  intro pz ez sz mz bz tz cz hx hb hr hml hown hts hlocks hP hK ls hl
  have hl : lv_has ls 2 [(0, .ref (a 0)), (1, .int p)] := hl
  have f32 := hts (.fieldLink RX0 32 "WhisperRing$Hall" "niches" "I") (by decide +kernel)
  refine lv_aload_n hx hb dX0_isNiche_0 rfl (lv_at hl 0 rfl) ?_
  refine va_get (D := G.1) (ci := 0) (v := .int h.nich) (C := RX0) (T := TX0) (N := 6) hx hb hts i_X0_isNiche_X0 hown hK.1 hP 0 rfl rfl 2 (by decide) f32 (fun _ h9 => h9) rfl dX0_isNiche_1 ?_
  refine lv_iload_n hx hb dX0_isNiche_4 rfl (lv_at hl 1 rfl) ?_
  refine lv_ishr hx hb dX0_isNiche_5 ?_
  refine lv_iconst (v := 1) hx hb dX0_isNiche_6 (by decide) ?_
  refine lv_iand hx hb dX0_isNiche_7 ?_
  refine lv_iconst (v := 1) hx hb dX0_isNiche_8 (by decide) ?_
  refine lv_icmp_ne (tgt := 16) hx hb dX0_isNiche_9 (by decide) (fun c_1 => ?_) (fun c_1 => ?_)
  · skip
    refine lv_iconst (v := 0) hx hb dX0_isNiche_16 (by decide) ?_
    exact g_rz hx hb hr hlocks dX0_isNiche_17 (by simp [hasB, bI, c_1])
  · skip
    refine lv_iconst (v := 1) hx hb dX0_isNiche_12 (by decide) ?_
    refine lv_goto (tgt := 17) hx hb dX0_isNiche_13 (by decide) ?_
    exact g_rz hx hb hr hlocks dX0_isNiche_17 (by simp [hasB, bI, c_1])

theorem i_X0_reach_X0 : ∀ w ∈ wsX00, w ∈ wsX0_reach := by decide +kernel
theorem h_X0_reach : yX0_reach.cls = RX0 ∧ yX0_reach.cls ≠ "java/lang/invoke/MethodHandle" ∧ yX0_reach.cls ≠ "java/lang/invoke/VarHandle" ∧ (parseMethodDescriptor yX0_reach.desc).map (fun d => d.parameters.length) = some 3 := by decide +kernel
set_option maxHeartbeats 4000000 in
set_option maxRecDepth 100000 in
theorem c_X0_reach (lz : Launch) (G : gG) (a : Nat → Nat) (h : HaS) (p way gone : Int32) : gRd lz yX0_reach wsX0_reach 1 G [.ref (a 0), .int p, .int way, .int gone] (wHa a G.2.1 h) (hReach h p way gone) := by
  refine g_rd (by decide) rfl (Nat.le_of_ble_eq_true rfl) ?_
  intro pz ez sz mz bz tz cz hx hb hr hml hown hts hlocks hP hK ls hl
  have hl : lv_has ls 5 [(0, .ref (a 0)), (1, .int p), (2, .int way), (3, .int gone)] := hl
  have f9 := hts (.fieldLink RX0 9 "WhisperRing$Hall" "places" "I") (by decide +kernel)
  refine lv_iload_n hx hb dX0_reach_0 rfl (lv_at hl 2 rfl) ?_
  refine lv_if_ne (tgt := 10) hx hb dX0_reach_1 (by decide) (fun c_1 => ?_) (fun c_1 => ?_)
  · skip
    refine lv_iload_n hx hb dX0_reach_10 rfl (lv_at hl 1 rfl) ?_
    refine lv_iload_n hx hb dX0_reach_11 rfl (lv_at hl 3 rfl) ?_
    refine lv_isub hx hb dX0_reach_12 ?_
    refine lv_istore (lv' := [(4, .int (p - gone)), (0, .ref (a 0)), (1, .int p), (2, .int way), (3, .int gone)]) hx hb dX0_reach_13 hl (by decide) rfl (fun ls hl => ?_)
    refine lv_aload_n hx hb dX0_reach_15 rfl (lv_at hl 1 rfl) ?_
    refine va_get (D := G.1) (ci := 0) (v := .int h.pl) (C := RX0) (T := TX0) (N := 6) hx hb hts i_X0_reach_X0 hown hK.1 hP 0 rfl rfl 0 (by decide) f9 (fun _ h9 => h9) rfl dX0_reach_16 ?_
    refine lv_if_le (tgt := 34) hx hb dX0_reach_19 (by decide) (fun c_2 => ?_) (fun c_2 => ?_)
    · skip
      have c_2 := gl_le c_2
      refine lv_iconst (v := 0) hx hb dX0_reach_34 (by decide) ?_
      exact g_ri hx hb hr hlocks dX0_reach_35 (by first | rfl | (simp only [hReach, c_1, c_2, bI, if_true, if_false, reduceIte, Bool.false_eq_true, ite_true, ite_false]; done) | (simp [hReach, c_1, c_2, bI]; done))
    · skip
      have c_2 := gl_nle c_2
      have hne : ¬ h.pl = 0 := fun q => by rw [q] at c_2; exact absurd c_2 (by decide)
      refine lv_iload hx hb dX0_reach_22 (lv_at hl 0 rfl) ?_
      refine lv_aload_n hx hb dX0_reach_24 rfl (lv_at hl 1 rfl) ?_
      refine va_get (D := G.1) (ci := 0) (v := .int h.pl) (C := RX0) (T := TX0) (N := 6) hx hb hts i_X0_reach_X0 hown hK.1 hP 0 rfl rfl 0 (by decide) f9 (fun _ h9 => h9) rfl dX0_reach_25 ?_
      refine g_rdS (As := [.int (p - gone), .int h.pl]) (rest := []) (nL := 5) hx hb hml hown hts (c_J9_floorMod_7cf53 lz G (p - gone) h.pl (by assumption)) gX0_reach_J9_floorMod_7cf53 rfl h_J9_floorMod_7cf53 ⟨Nat.le_of_ble_eq_true rfl, Nat.le_of_ble_eq_true rfl⟩ hK gP_nil rfl hl.1 rfl (Nat.le_of_ble_eq_true rfl) ⟨Nat.le_refl _, Nat.le_refl _⟩ dX0_reach_28 ?_
      refine lv_goto (tgt := 35) hx hb dX0_reach_31 (by decide) ?_
      exact g_ri hx hb hr hlocks dX0_reach_35 (by first | rfl | (simp only [hReach, c_1, c_2, bI, if_true, if_false, reduceIte, Bool.false_eq_true, ite_true, ite_false]; done) | (simp [hReach, c_1, c_2, bI]; done))
  · skip
    refine lv_iload_n hx hb dX0_reach_4 rfl (lv_at hl 1 rfl) ?_
    refine lv_iload_n hx hb dX0_reach_5 rfl (lv_at hl 3 rfl) ?_
    refine lv_iadd hx hb dX0_reach_6 ?_
    refine lv_goto (tgt := 13) hx hb dX0_reach_7 (by decide) ?_
    refine lv_istore (lv' := [(4, .int (p + gone)), (0, .ref (a 0)), (1, .int p), (2, .int way), (3, .int gone)]) hx hb dX0_reach_13 hl (by decide) rfl (fun ls hl => ?_)
    refine lv_aload_n hx hb dX0_reach_15 rfl (lv_at hl 1 rfl) ?_
    refine va_get (D := G.1) (ci := 0) (v := .int h.pl) (C := RX0) (T := TX0) (N := 6) hx hb hts i_X0_reach_X0 hown hK.1 hP 0 rfl rfl 0 (by decide) f9 (fun _ h9 => h9) rfl dX0_reach_16 ?_
    refine lv_if_le (tgt := 34) hx hb dX0_reach_19 (by decide) (fun c_3 => ?_) (fun c_3 => ?_)
    · skip
      have c_3 := gl_le c_3
      refine lv_iconst (v := 0) hx hb dX0_reach_34 (by decide) ?_
      exact g_ri hx hb hr hlocks dX0_reach_35 (by first | rfl | (simp only [hReach, c_1, c_3, bI, if_true, if_false, reduceIte, Bool.false_eq_true, ite_true, ite_false]; done) | (simp [hReach, c_1, c_3, bI]; done))
    · skip
      have c_3 := gl_nle c_3
      have hne : ¬ h.pl = 0 := fun q => by rw [q] at c_3; exact absurd c_3 (by decide)
      refine lv_iload hx hb dX0_reach_22 (lv_at hl 0 rfl) ?_
      refine lv_aload_n hx hb dX0_reach_24 rfl (lv_at hl 1 rfl) ?_
      refine va_get (D := G.1) (ci := 0) (v := .int h.pl) (C := RX0) (T := TX0) (N := 6) hx hb hts i_X0_reach_X0 hown hK.1 hP 0 rfl rfl 0 (by decide) f9 (fun _ h9 => h9) rfl dX0_reach_25 ?_
      refine g_rdS (As := [.int (p + gone), .int h.pl]) (rest := []) (nL := 5) hx hb hml hown hts (c_J9_floorMod_7cf53 lz G (p + gone) h.pl (by assumption)) gX0_reach_J9_floorMod_7cf53 rfl h_J9_floorMod_7cf53 ⟨Nat.le_of_ble_eq_true rfl, Nat.le_of_ble_eq_true rfl⟩ hK gP_nil rfl hl.1 rfl (Nat.le_of_ble_eq_true rfl) ⟨Nat.le_refl _, Nat.le_refl _⟩ dX0_reach_28 ?_
      refine lv_goto (tgt := 35) hx hb dX0_reach_31 (by decide) ?_
      exact g_ri hx hb hr hlocks dX0_reach_35 (by first | rfl | (simp only [hReach, c_1, c_3, bI, if_true, if_false, reduceIte, Bool.false_eq_true, ite_true, ite_false]; done) | (simp [hReach, c_1, c_3, bI]; done))

theorem i_X0_lapsOf_X0 : ∀ w ∈ wsX00, w ∈ wsX0_lapsOf := by decide +kernel
theorem h_X0_lapsOf : yX0_lapsOf.cls = RX0 ∧ yX0_lapsOf.cls ≠ "java/lang/invoke/MethodHandle" ∧ yX0_lapsOf.cls ≠ "java/lang/invoke/VarHandle" ∧ (parseMethodDescriptor yX0_lapsOf.desc).map (fun d => d.parameters.length) = some 1 := by decide +kernel
set_option maxHeartbeats 4000000 in
set_option maxRecDepth 100000 in
theorem c_X0_lapsOf (lz : Launch) (G : gG) (a : Nat → Nat) (h : HaS) (gone : Int32) : gRd lz yX0_lapsOf wsX0_lapsOf 0 G [.ref (a 0), .int gone] (wHa a G.2.1 h) (hLaps h gone) := by
  refine g_rd (by decide) rfl (Nat.le_of_ble_eq_true rfl) ?_
  intro pz ez sz mz bz tz cz hx hb hr hml hown hts hlocks hP hK ls hl
  have hl : lv_has ls 2 [(0, .ref (a 0)), (1, .int gone)] := hl
  have f9 := hts (.fieldLink RX0 9 "WhisperRing$Hall" "places" "I") (by decide +kernel)
  refine lv_aload_n hx hb dX0_lapsOf_0 rfl (lv_at hl 0 rfl) ?_
  refine va_get (D := G.1) (ci := 0) (v := .int h.pl) (C := RX0) (T := TX0) (N := 6) hx hb hts i_X0_lapsOf_X0 hown hK.1 hP 0 rfl rfl 0 (by decide) f9 (fun _ h9 => h9) rfl dX0_lapsOf_1 ?_
  refine lv_if_le (tgt := 16) hx hb dX0_lapsOf_4 (by decide) (fun c_1 => ?_) (fun c_1 => ?_)
  · skip
    have c_1 := gl_le c_1
    refine lv_iconst (v := 0) hx hb dX0_lapsOf_16 (by decide) ?_
    exact g_ri hx hb hr hlocks dX0_lapsOf_17 (by first | rfl | (simp only [hLaps, c_1, bI, if_true, if_false, reduceIte, Bool.false_eq_true, ite_true, ite_false]; done) | (simp [hLaps, c_1, bI]; done))
  · skip
    have c_1 := gl_nle c_1
    have hne : ¬ h.pl = 0 := fun q => by rw [q] at c_1; exact absurd c_1 (by decide)
    refine lv_iload_n hx hb dX0_lapsOf_7 rfl (lv_at hl 1 rfl) ?_
    refine lv_aload_n hx hb dX0_lapsOf_8 rfl (lv_at hl 0 rfl) ?_
    refine va_get (D := G.1) (ci := 0) (v := .int h.pl) (C := RX0) (T := TX0) (N := 6) hx hb hts i_X0_lapsOf_X0 hown hK.1 hP 0 rfl rfl 0 (by decide) f9 (fun _ h9 => h9) rfl dX0_lapsOf_9 ?_
    refine lv_idiv hx hb dX0_lapsOf_12 (by assumption) ?_
    refine lv_goto (tgt := 17) hx hb dX0_lapsOf_13 (by decide) ?_
    exact g_ri hx hb hr hlocks dX0_lapsOf_17 (by first | rfl | (simp only [hLaps, c_1, bI, if_true, if_false, reduceIte, Bool.false_eq_true, ite_true, ite_false]; done) | (simp [hLaps, c_1, bI]; done))

theorem i_X0_strengthLeft_X0 : ∀ w ∈ wsX00, w ∈ wsX0_strengthLeft := by decide +kernel
theorem h_X0_strengthLeft : yX0_strengthLeft.cls = RX0 ∧ yX0_strengthLeft.cls ≠ "java/lang/invoke/MethodHandle" ∧ yX0_strengthLeft.cls ≠ "java/lang/invoke/VarHandle" ∧ (parseMethodDescriptor yX0_strengthLeft.desc).map (fun d => d.parameters.length) = some 2 := by decide +kernel
set_option maxHeartbeats 4000000 in
set_option maxRecDepth 100000 in
theorem c_X0_strengthLeft (lz : Launch) (G : gG) (a : Nat → Nat) (h : HaS) (loud gone : Int32) : gRd lz yX0_strengthLeft wsX0_strengthLeft 1 G [.ref (a 0), .int loud, .int gone] (wHa a G.2.1 h) (hLeft h loud gone) := by
  refine g_rd (by decide) rfl (Nat.le_of_ble_eq_true rfl) ?_
  intro pz ez sz mz bz tz cz hx hb hr hml hown hts hlocks hP hK ls hl
  have hl : lv_has ls 3 [(0, .ref (a 0)), (1, .int loud), (2, .int gone)] := hl
  have f15 := hts (.fieldLink RX0 15 "WhisperRing$Hall" "loss" "I") (by decide +kernel)
  have f55 := hts (.methodLink RX0 55 Lib.Math.max.name) (by decide +kernel)
  have fmxc := hts (.code Lib.Math.max.name Lib.Math.max.code 2 (some .int)) (by decide +kernel)
  have fmxi := hts (.initialized "java/lang/Math") (by decide +kernel)
  have fmxs := hts (.static Lib.Math.max.name) (by decide +kernel)
  refine lv_iconst (v := 0) hx hb dX0_strengthLeft_0 (by decide) ?_
  refine lv_iload_n hx hb dX0_strengthLeft_1 rfl (lv_at hl 1 rfl) ?_
  refine lv_aload_n hx hb dX0_strengthLeft_2 rfl (lv_at hl 0 rfl) ?_
  refine va_get (D := G.1) (ci := 0) (v := .int h.loss) (C := RX0) (T := TX0) (N := 6) hx hb hts i_X0_strengthLeft_X0 hown hK.1 hP 0 rfl rfl 1 (by decide) f15 (fun _ h9 => h9) rfl dX0_strengthLeft_3 ?_
  refine lv_aload_n hx hb dX0_strengthLeft_6 rfl (lv_at hl 0 rfl) ?_
  refine lv_iload_n hx hb dX0_strengthLeft_7 rfl (lv_at hl 2 rfl) ?_
  refine g_rdV (As := [.int gone]) (rest := [.int h.loss, .int loud, .int 0]) (nL := 3) hx hb hml hown hts (c_X0_lapsOf lz G a h gone) gX0_strengthLeft_X0_lapsOf rfl h_X0_lapsOf ⟨Nat.le_of_ble_eq_true rfl, Nat.le_of_ble_eq_true rfl⟩ hK hP (ci := 0) rfl rfl rfl rfl hl.1 rfl (Nat.le_of_ble_eq_true rfl) ⟨Nat.le_refl _, Nat.le_refl _⟩ dX0_strengthLeft_8 ?_
  refine lv_imul hx hb dX0_strengthLeft_11 ?_
  refine lv_isub hx hb dX0_strengthLeft_12 ?_
  refine va_mmax hx hb (hml.trans hl.1.symm) hown f55 fmxs fmxi fmxc (Nat.le_of_ble_eq_true rfl) (Nat.le_of_ble_eq_true rfl) (Nat.le_refl _) (Nat.le_refl _) dX0_strengthLeft_13 ?_
  exact g_ri hx hb hr hlocks dX0_strengthLeft_16 (by first | rfl | (simp only [hLeft, bI, if_true, if_false, reduceIte, Bool.false_eq_true, ite_true, ite_false]; done) | (simp [hLeft, bI]; done))

theorem i_X0_goneAfter_X0 : ∀ w ∈ wsX00, w ∈ wsX0_goneAfter := by decide +kernel
theorem i_X0_goneAfter_X2 : ∀ w ∈ wsX20, w ∈ wsX0_goneAfter := by decide +kernel
theorem h_X0_goneAfter : yX0_goneAfter.cls = RX0 ∧ yX0_goneAfter.cls ≠ "java/lang/invoke/MethodHandle" ∧ yX0_goneAfter.cls ≠ "java/lang/invoke/VarHandle" ∧ (parseMethodDescriptor yX0_goneAfter.desc).map (fun d => d.parameters.length) = some 2 := by decide +kernel
set_option maxHeartbeats 4000000 in
set_option maxRecDepth 100000 in
theorem c_X0_goneAfter (lz : Launch) (G : gG) (a : Nat → Nat) (h : HaS) (s : Nat) (k : Int32) (hs : s < 8) : gRd lz yX0_goneAfter wsX0_goneAfter 0 G [.ref (a 0), .int (nI s), .int k] (wHa a G.2.1 h) (hGone h s k) := by
  refine g_rd (by decide) rfl (Nat.le_of_ble_eq_true rfl) ?_
  intro pz ez sz mz bz tz cz hx hb hr hml hown hts hlocks hP hK ls hl
  have hl : lv_has ls 3 [(0, .ref (a 0)), (1, .int (nI s)), (2, .int k)] := hl
  have f21 := hts (.fieldLink RX0 21 "WhisperRing$Hall" "now" "LWhisperRing$Moment;") (by decide +kernel)
  have f58 := hts (.fieldLink RX0 58 "WhisperRing$Moment" "speed" "[I") (by decide +kernel)
  have f61 := hts (.fieldLink RX0 61 "WhisperRing$Moment" "tick" "I") (by decide +kernel)
  have f64 := hts (.fieldLink RX0 64 "WhisperRing$Moment" "saidAt" "[I") (by decide +kernel)
  refine lv_aload_n hx hb dX0_goneAfter_0 rfl (lv_at hl 0 rfl) ?_
  refine va_get (D := G.1) (ci := 0) (v := .ref (a 1)) (C := RX0) (T := TX0) (N := 6) hx hb hts i_X0_goneAfter_X0 hown hK.1 hP 0 rfl rfl 3 (by decide) f21 (fun _ h9 => h9) rfl dX0_goneAfter_1 ?_
  refine va_get (D := G.1) (ci := 2) (v := .ref (a 3)) (C := RX2) (T := TX2) (N := 10) hx hb hts i_X0_goneAfter_X2 hown hK.1 hP 1 rfl rfl 5 (by decide) f58 (fun _ h9 => h9) rfl dX0_goneAfter_4 ?_
  refine lv_iload_n hx hb dX0_goneAfter_7 rfl (lv_at hl 1 rfl) ?_
  refine g_iald hx hb hK.1 hP 3 0 rfl rfl (i := s) (by omega) (by decide) dX0_goneAfter_8 ?_
  refine lv_aload_n hx hb dX0_goneAfter_9 rfl (lv_at hl 0 rfl) ?_
  refine va_get (D := G.1) (ci := 0) (v := .ref (a 1)) (C := RX0) (T := TX0) (N := 6) hx hb hts i_X0_goneAfter_X0 hown hK.1 hP 0 rfl rfl 3 (by decide) f21 (fun _ h9 => h9) rfl dX0_goneAfter_10 ?_
  refine va_get (D := G.1) (ci := 2) (v := .int h.mo.tick) (C := RX2) (T := TX2) (N := 10) hx hb hts i_X0_goneAfter_X2 hown hK.1 hP 1 rfl rfl 0 (by decide) f61 (fun _ h9 => h9) rfl dX0_goneAfter_13 ?_
  refine lv_iload_n hx hb dX0_goneAfter_16 rfl (lv_at hl 2 rfl) ?_
  refine lv_iadd hx hb dX0_goneAfter_17 ?_
  refine lv_aload_n hx hb dX0_goneAfter_18 rfl (lv_at hl 0 rfl) ?_
  refine va_get (D := G.1) (ci := 0) (v := .ref (a 1)) (C := RX0) (T := TX0) (N := 6) hx hb hts i_X0_goneAfter_X0 hown hK.1 hP 0 rfl rfl 3 (by decide) f21 (fun _ h9 => h9) rfl dX0_goneAfter_19 ?_
  refine va_get (D := G.1) (ci := 2) (v := .ref (a 6)) (C := RX2) (T := TX2) (N := 10) hx hb hts i_X0_goneAfter_X2 hown hK.1 hP 1 rfl rfl 8 (by decide) f64 (fun _ h9 => h9) rfl dX0_goneAfter_22 ?_
  refine lv_iload_n hx hb dX0_goneAfter_25 rfl (lv_at hl 1 rfl) ?_
  refine g_iald hx hb hK.1 hP 6 0 rfl rfl (i := s) (by omega) (by decide) dX0_goneAfter_26 ?_
  refine lv_isub hx hb dX0_goneAfter_27 ?_
  refine lv_imul hx hb dX0_goneAfter_28 ?_
  exact g_ri hx hb hr hlocks dX0_goneAfter_29 rfl

theorem i_X0_placeAfter_X0 : ∀ w ∈ wsX00, w ∈ wsX0_placeAfter := by decide +kernel
theorem i_X0_placeAfter_X2 : ∀ w ∈ wsX20, w ∈ wsX0_placeAfter := by decide +kernel
theorem h_X0_placeAfter : yX0_placeAfter.cls = RX0 ∧ yX0_placeAfter.cls ≠ "java/lang/invoke/MethodHandle" ∧ yX0_placeAfter.cls ≠ "java/lang/invoke/VarHandle" ∧ (parseMethodDescriptor yX0_placeAfter.desc).map (fun d => d.parameters.length) = some 2 := by decide +kernel
set_option maxHeartbeats 4000000 in
set_option maxRecDepth 100000 in
theorem c_X0_placeAfter (lz : Launch) (G : gG) (a : Nat → Nat) (h : HaS) (s : Nat) (k : Int32) (hs : s < 8) : gRd lz yX0_placeAfter wsX0_placeAfter 2 G [.ref (a 0), .int (nI s), .int k] (wHa a G.2.1 h) (hPlace h s k) := by
  refine g_rd (by decide) rfl (Nat.le_of_ble_eq_true rfl) ?_
  intro pz ez sz mz bz tz cz hx hb hr hml hown hts hlocks hP hK ls hl
  have hl : lv_has ls 3 [(0, .ref (a 0)), (1, .int (nI s)), (2, .int k)] := hl
  have f21 := hts (.fieldLink RX0 21 "WhisperRing$Hall" "now" "LWhisperRing$Moment;") (by decide +kernel)
  have f67 := hts (.fieldLink RX0 67 "WhisperRing$Moment" "from" "[I") (by decide +kernel)
  have f70 := hts (.fieldLink RX0 70 "WhisperRing$Moment" "way" "[I") (by decide +kernel)
  refine lv_aload_n hx hb dX0_placeAfter_0 rfl (lv_at hl 0 rfl) ?_
  refine lv_aload_n hx hb dX0_placeAfter_1 rfl (lv_at hl 0 rfl) ?_
  refine va_get (D := G.1) (ci := 0) (v := .ref (a 1)) (C := RX0) (T := TX0) (N := 6) hx hb hts i_X0_placeAfter_X0 hown hK.1 hP 0 rfl rfl 3 (by decide) f21 (fun _ h9 => h9) rfl dX0_placeAfter_2 ?_
  refine va_get (D := G.1) (ci := 2) (v := .ref (a 2)) (C := RX2) (T := TX2) (N := 10) hx hb hts i_X0_placeAfter_X2 hown hK.1 hP 1 rfl rfl 4 (by decide) f67 (fun _ h9 => h9) rfl dX0_placeAfter_5 ?_
  refine lv_iload_n hx hb dX0_placeAfter_8 rfl (lv_at hl 1 rfl) ?_
  refine g_iald hx hb hK.1 hP 2 0 rfl rfl (i := s) (by omega) (by decide) dX0_placeAfter_9 ?_
  refine lv_aload_n hx hb dX0_placeAfter_10 rfl (lv_at hl 0 rfl) ?_
  refine va_get (D := G.1) (ci := 0) (v := .ref (a 1)) (C := RX0) (T := TX0) (N := 6) hx hb hts i_X0_placeAfter_X0 hown hK.1 hP 0 rfl rfl 3 (by decide) f21 (fun _ h9 => h9) rfl dX0_placeAfter_11 ?_
  refine va_get (D := G.1) (ci := 2) (v := .ref (a 4)) (C := RX2) (T := TX2) (N := 10) hx hb hts i_X0_placeAfter_X2 hown hK.1 hP 1 rfl rfl 6 (by decide) f70 (fun _ h9 => h9) rfl dX0_placeAfter_14 ?_
  refine lv_iload_n hx hb dX0_placeAfter_17 rfl (lv_at hl 1 rfl) ?_
  refine g_iald hx hb hK.1 hP 4 0 rfl rfl (i := s) (by omega) (by decide) dX0_placeAfter_18 ?_
  refine lv_aload_n hx hb dX0_placeAfter_19 rfl (lv_at hl 0 rfl) ?_
  refine lv_iload_n hx hb dX0_placeAfter_20 rfl (lv_at hl 1 rfl) ?_
  refine lv_iload_n hx hb dX0_placeAfter_21 rfl (lv_at hl 2 rfl) ?_
  refine g_rdV (As := [.int (nI s), .int k]) (rest := [.int (h.mo.way s), .int (h.mo.frm s), .ref (a 0)]) (nL := 3) hx hb hml hown hts (c_X0_goneAfter lz G a h s k (by omega)) gX0_placeAfter_X0_goneAfter rfl h_X0_goneAfter ⟨Nat.le_of_ble_eq_true rfl, Nat.le_of_ble_eq_true rfl⟩ hK hP (ci := 0) rfl rfl rfl rfl hl.1 rfl (Nat.le_of_ble_eq_true rfl) ⟨Nat.le_refl _, Nat.le_refl _⟩ dX0_placeAfter_22 ?_
  refine g_rdV (As := [.int (h.mo.frm s), .int (h.mo.way s), .int (hGone h s k)]) (rest := []) (nL := 3) hx hb hml hown hts (c_X0_reach lz G a h (h.mo.frm s) (h.mo.way s) (hGone h s k)) gX0_placeAfter_X0_reach rfl h_X0_reach ⟨Nat.le_of_ble_eq_true rfl, Nat.le_of_ble_eq_true rfl⟩ hK hP (ci := 0) rfl rfl rfl rfl hl.1 rfl (Nat.le_of_ble_eq_true rfl) ⟨Nat.le_refl _, Nat.le_refl _⟩ dX0_placeAfter_25 ?_
  exact g_ri hx hb hr hlocks dX0_placeAfter_28 rfl

theorem h_X0_lapsAfter : yX0_lapsAfter.cls = RX0 ∧ yX0_lapsAfter.cls ≠ "java/lang/invoke/MethodHandle" ∧ yX0_lapsAfter.cls ≠ "java/lang/invoke/VarHandle" ∧ (parseMethodDescriptor yX0_lapsAfter.desc).map (fun d => d.parameters.length) = some 2 := by decide +kernel
set_option maxHeartbeats 4000000 in
set_option maxRecDepth 100000 in
theorem c_X0_lapsAfter (lz : Launch) (G : gG) (a : Nat → Nat) (h : HaS) (s : Nat) (k : Int32) (hs : s < 8) : gRd lz yX0_lapsAfter wsX0_lapsAfter 1 G [.ref (a 0), .int (nI s), .int k] (wHa a G.2.1 h) (hLaps h (hGone h s k)) := by
  refine g_rd (by decide) rfl (Nat.le_of_ble_eq_true rfl) ?_
  intro pz ez sz mz bz tz cz hx hb hr hml hown hts hlocks hP hK ls hl
  have hl : lv_has ls 3 [(0, .ref (a 0)), (1, .int (nI s)), (2, .int k)] := hl
  refine lv_aload_n hx hb dX0_lapsAfter_0 rfl (lv_at hl 0 rfl) ?_
  refine lv_aload_n hx hb dX0_lapsAfter_1 rfl (lv_at hl 0 rfl) ?_
  refine lv_iload_n hx hb dX0_lapsAfter_2 rfl (lv_at hl 1 rfl) ?_
  refine lv_iload_n hx hb dX0_lapsAfter_3 rfl (lv_at hl 2 rfl) ?_
  refine g_rdV (As := [.int (nI s), .int k]) (rest := [.ref (a 0)]) (nL := 3) hx hb hml hown hts (c_X0_goneAfter lz G a h s k (by omega)) gX0_lapsAfter_X0_goneAfter rfl h_X0_goneAfter ⟨Nat.le_of_ble_eq_true rfl, Nat.le_of_ble_eq_true rfl⟩ hK hP (ci := 0) rfl rfl rfl rfl hl.1 rfl (Nat.le_of_ble_eq_true rfl) ⟨Nat.le_refl _, Nat.le_refl _⟩ dX0_lapsAfter_4 ?_
  refine g_rdV (As := [.int (hGone h s k)]) (rest := []) (nL := 3) hx hb hml hown hts (c_X0_lapsOf lz G a h (hGone h s k)) gX0_lapsAfter_X0_lapsOf rfl h_X0_lapsOf ⟨Nat.le_of_ble_eq_true rfl, Nat.le_of_ble_eq_true rfl⟩ hK hP (ci := 0) rfl rfl rfl rfl hl.1 rfl (Nat.le_of_ble_eq_true rfl) ⟨Nat.le_refl _, Nat.le_refl _⟩ dX0_lapsAfter_7 ?_
  exact g_ri hx hb hr hlocks dX0_lapsAfter_10 rfl

theorem i_X0_strengthAfter_X0 : ∀ w ∈ wsX00, w ∈ wsX0_strengthAfter := by decide +kernel
theorem i_X0_strengthAfter_X2 : ∀ w ∈ wsX20, w ∈ wsX0_strengthAfter := by decide +kernel
theorem h_X0_strengthAfter : yX0_strengthAfter.cls = RX0 ∧ yX0_strengthAfter.cls ≠ "java/lang/invoke/MethodHandle" ∧ yX0_strengthAfter.cls ≠ "java/lang/invoke/VarHandle" ∧ (parseMethodDescriptor yX0_strengthAfter.desc).map (fun d => d.parameters.length) = some 2 := by decide +kernel
set_option maxHeartbeats 4000000 in
set_option maxRecDepth 100000 in
theorem c_X0_strengthAfter (lz : Launch) (G : gG) (a : Nat → Nat) (h : HaS) (s : Nat) (k : Int32) (hs : s < 8) : gRd lz yX0_strengthAfter wsX0_strengthAfter 2 G [.ref (a 0), .int (nI s), .int k] (wHa a G.2.1 h) (hStr h s k) := by
  refine g_rd (by decide) rfl (Nat.le_of_ble_eq_true rfl) ?_
  intro pz ez sz mz bz tz cz hx hb hr hml hown hts hlocks hP hK ls hl
  have hl : lv_has ls 3 [(0, .ref (a 0)), (1, .int (nI s)), (2, .int k)] := hl
  have f21 := hts (.fieldLink RX0 21 "WhisperRing$Hall" "now" "LWhisperRing$Moment;") (by decide +kernel)
  have f84 := hts (.fieldLink RX0 84 "WhisperRing$Moment" "loud" "[I") (by decide +kernel)
  refine lv_aload_n hx hb dX0_strengthAfter_0 rfl (lv_at hl 0 rfl) ?_
  refine va_get (D := G.1) (ci := 0) (v := .ref (a 1)) (C := RX0) (T := TX0) (N := 6) hx hb hts i_X0_strengthAfter_X0 hown hK.1 hP 0 rfl rfl 3 (by decide) f21 (fun _ h9 => h9) rfl dX0_strengthAfter_1 ?_
  refine lv_iload_n hx hb dX0_strengthAfter_4 rfl (lv_at hl 1 rfl) ?_
  refine g_rdV (As := [.int (nI s)]) (rest := []) (nL := 3) hx hb hml hown hts (c_X2_isHushed lz G (sh 1 a) h.mo (nI s)) gX0_strengthAfter_X2_isHushed rfl h_X2_isHushed ⟨Nat.le_of_ble_eq_true rfl, Nat.le_of_ble_eq_true rfl⟩ hK (hP.sub [1, 2, 3, 4, 5, 6, 7] rfl) (ci := 2) rfl rfl rfl rfl hl.1 rfl (Nat.le_of_ble_eq_true rfl) ⟨Nat.le_refl _, Nat.le_refl _⟩ dX0_strengthAfter_5 ?_
  refine lv_if_eq (tgt := 15) hx hb dX0_strengthAfter_8 (by decide) (fun c_1 => ?_) (fun c_1 => ?_)
  · skip
    have c_1 := bI_0 c_1
    refine lv_aload_n hx hb dX0_strengthAfter_15 rfl (lv_at hl 0 rfl) ?_
    refine lv_aload_n hx hb dX0_strengthAfter_16 rfl (lv_at hl 0 rfl) ?_
    refine va_get (D := G.1) (ci := 0) (v := .ref (a 1)) (C := RX0) (T := TX0) (N := 6) hx hb hts i_X0_strengthAfter_X0 hown hK.1 hP 0 rfl rfl 3 (by decide) f21 (fun _ h9 => h9) rfl dX0_strengthAfter_17 ?_
    refine va_get (D := G.1) (ci := 2) (v := .ref (a 5)) (C := RX2) (T := TX2) (N := 10) hx hb hts i_X0_strengthAfter_X2 hown hK.1 hP 1 rfl rfl 7 (by decide) f84 (fun _ h9 => h9) rfl dX0_strengthAfter_20 ?_
    refine lv_iload_n hx hb dX0_strengthAfter_23 rfl (lv_at hl 1 rfl) ?_
    refine g_iald hx hb hK.1 hP 5 0 rfl rfl (i := s) (by omega) (by decide) dX0_strengthAfter_24 ?_
    refine lv_aload_n hx hb dX0_strengthAfter_25 rfl (lv_at hl 0 rfl) ?_
    refine lv_iload_n hx hb dX0_strengthAfter_26 rfl (lv_at hl 1 rfl) ?_
    refine lv_iload_n hx hb dX0_strengthAfter_27 rfl (lv_at hl 2 rfl) ?_
    refine g_rdV (As := [.int (nI s), .int k]) (rest := [.int (h.mo.loud s), .ref (a 0)]) (nL := 3) hx hb hml hown hts (c_X0_goneAfter lz G a h s k (by omega)) gX0_strengthAfter_X0_goneAfter rfl h_X0_goneAfter ⟨Nat.le_of_ble_eq_true rfl, Nat.le_of_ble_eq_true rfl⟩ hK hP (ci := 0) rfl rfl rfl rfl hl.1 rfl (Nat.le_of_ble_eq_true rfl) ⟨Nat.le_refl _, Nat.le_refl _⟩ dX0_strengthAfter_28 ?_
    refine g_rdV (As := [.int (h.mo.loud s), .int (hGone h s k)]) (rest := []) (nL := 3) hx hb hml hown hts (c_X0_strengthLeft lz G a h (h.mo.loud s) (hGone h s k)) gX0_strengthAfter_X0_strengthLeft rfl h_X0_strengthLeft ⟨Nat.le_of_ble_eq_true rfl, Nat.le_of_ble_eq_true rfl⟩ hK hP (ci := 0) rfl rfl rfl rfl hl.1 rfl (Nat.le_of_ble_eq_true rfl) ⟨Nat.le_refl _, Nat.le_refl _⟩ dX0_strengthAfter_31 ?_
    exact g_ri hx hb hr hlocks dX0_strengthAfter_34 (by first | rfl | (simp only [hStr, c_1, bI, if_true, if_false, reduceIte, Bool.false_eq_true, ite_true, ite_false]; done) | (simp [hStr, c_1, bI]; done))
  · skip
    have c_1 := bI_1 c_1
    refine lv_iconst (v := 0) hx hb dX0_strengthAfter_11 (by decide) ?_
    refine lv_goto (tgt := 34) hx hb dX0_strengthAfter_12 (by decide) ?_
    exact g_ri hx hb hr hlocks dX0_strengthAfter_34 (by first | rfl | (simp only [hStr, c_1, bI, if_true, if_false, reduceIte, Bool.false_eq_true, ite_true, ite_false]; done) | (simp [hStr, c_1, bI]; done))

theorem h_X0_sounds : yX0_sounds.cls = RX0 ∧ yX0_sounds.cls ≠ "java/lang/invoke/MethodHandle" ∧ yX0_sounds.cls ≠ "java/lang/invoke/VarHandle" ∧ (parseMethodDescriptor yX0_sounds.desc).map (fun d => d.parameters.length) = some 3 := by decide +kernel
set_option maxHeartbeats 4000000 in
set_option maxRecDepth 100000 in
theorem c_X0_sounds (lz : Launch) (G : gG) (a : Nat → Nat) (h : HaS) (s : Nat) (p k : Int32) (hs : s < 8) : gRd lz yX0_sounds wsX0_sounds 3 G [.ref (a 0), .int (nI s), .int p, .int k] (wHa a G.2.1 h) (bI (hSnd h s p k)) := by
  refine g_rd (by decide) rfl (Nat.le_of_ble_eq_true rfl) ?_
  intro pz ez sz mz bz tz cz hx hb hr hml hown hts hlocks hP hK ls hl
  have hl : lv_has ls 4 [(0, .ref (a 0)), (1, .int (nI s)), (2, .int p), (3, .int k)] := hl
  refine lv_aload_n hx hb dX0_sounds_0 rfl (lv_at hl 0 rfl) ?_
  refine lv_iload_n hx hb dX0_sounds_1 rfl (lv_at hl 1 rfl) ?_
  refine lv_iload_n hx hb dX0_sounds_2 rfl (lv_at hl 3 rfl) ?_
  refine g_rdV (As := [.int (nI s), .int k]) (rest := []) (nL := 4) hx hb hml hown hts (c_X0_placeAfter lz G a h s k (by omega)) gX0_sounds_X0_placeAfter rfl h_X0_placeAfter ⟨Nat.le_of_ble_eq_true rfl, Nat.le_of_ble_eq_true rfl⟩ hK hP (ci := 0) rfl rfl rfl rfl hl.1 rfl (Nat.le_of_ble_eq_true rfl) ⟨Nat.le_refl _, Nat.le_refl _⟩ dX0_sounds_3 ?_
  refine lv_iload_n hx hb dX0_sounds_6 rfl (lv_at hl 2 rfl) ?_
  refine lv_icmp_ne (tgt := 23) hx hb dX0_sounds_7 (by decide) (fun c_1 => ?_) (fun c_1 => ?_)
  · skip
    refine lv_iconst (v := 0) hx hb dX0_sounds_23 (by decide) ?_
    exact g_rz hx hb hr hlocks dX0_sounds_24 (by simp [hSnd, bI, c_1])
  · skip
    refine lv_aload_n hx hb dX0_sounds_10 rfl (lv_at hl 0 rfl) ?_
    refine lv_iload_n hx hb dX0_sounds_11 rfl (lv_at hl 1 rfl) ?_
    refine lv_iload_n hx hb dX0_sounds_12 rfl (lv_at hl 3 rfl) ?_
    refine g_rdV (As := [.int (nI s), .int k]) (rest := []) (nL := 4) hx hb hml hown hts (c_X0_strengthAfter lz G a h s k (by omega)) gX0_sounds_X0_strengthAfter rfl h_X0_strengthAfter ⟨Nat.le_of_ble_eq_true rfl, Nat.le_of_ble_eq_true rfl⟩ hK hP (ci := 0) rfl rfl rfl rfl hl.1 rfl (Nat.le_of_ble_eq_true rfl) ⟨Nat.le_refl _, Nat.le_refl _⟩ dX0_sounds_13 ?_
    refine lv_if_le (tgt := 23) hx hb dX0_sounds_16 (by decide) (fun c_2 => ?_) (fun c_2 => ?_)
    · skip
      have c_2 := gl_le c_2
      refine lv_iconst (v := 0) hx hb dX0_sounds_23 (by decide) ?_
      exact g_rz hx hb hr hlocks dX0_sounds_24 (by simp [hSnd, bI, c_1, c_2])
    · skip
      have c_2 := gl_nle c_2
      refine lv_iconst (v := 1) hx hb dX0_sounds_19 (by decide) ?_
      refine lv_goto (tgt := 24) hx hb dX0_sounds_20 (by decide) ?_
      exact g_rz hx hb hr hlocks dX0_sounds_24 (by simp [hSnd, bI, c_1, c_2])
