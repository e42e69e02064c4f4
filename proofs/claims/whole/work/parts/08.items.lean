theorem i_X3_readStop_X3 : ∀ w ∈ wsX30, w ∈ wsX3_readStop := by decide +kernel
theorem h_X3_readStop : yX3_readStop.cls = RX3 ∧ yX3_readStop.cls ≠ "java/lang/invoke/MethodHandle" ∧ yX3_readStop.cls ≠ "java/lang/invoke/VarHandle" ∧ (parseMethodDescriptor yX3_readStop.desc).map (fun d => d.parameters.length) = some 0 := by decide +kernel
set_option maxHeartbeats 4000000 in
set_option maxRecDepth 100000 in
theorem c_X3_readStop (lz : Launch) (G : gG) (b : Nat → Nat) (s : ScS) (hs : scOK s) : gWr lz yX3_readStop wsX3_readStop 2 G [.ref (b 0)] (wSc b G.2.1 s) (wSc b G.2.1 (scStop s)) (some (.int (bI (stopOk s)))) := by
  refine g_wr (by decide) rfl (Nat.le_of_ble_eq_true rfl) ?_
  intro pz ez sz mz bz tz cz hx hb hr hml hown hts hlocks hK A hAe hP hD hS ls hl
  have hl : lv_has ls 1 [(0, .ref (b 0))] := hl
  have f34 := hts (.fieldLink RX3 34 "WhisperRing$Script" "token" "I") (by decide +kernel)
  refine lv_aload_n hx hb dX3_readStop_0 rfl (lv_at hl 0 rfl) ?_
  refine g_wrV (As := []) (rest := []) (nL := 1) hx hb hml hown hts (c_X3_step lz G b s hs) gX3_readStop_X3_step rfl h_X3_step ⟨Nat.le_of_ble_eq_true rfl, Nat.le_of_ble_eq_true rfl⟩ hK hP hD hS [0, 1] rfl rfl rfl (ws1 := wSc b G.2.1 (scStep s)) rfl [b 0, b 1] rfl rfl (ci := 3) rfl rfl rfl rfl hl.1 rfl (Nat.le_of_ble_eq_true rfl) ⟨Nat.le_refl _, Nat.le_refl _⟩ dX3_readStop_1 (fun H locs hP hD hS => ?_)
  generalize hg1 : scStep s = t1 at hP hD ⊢
  have ok1 : scOK t1 := by rw [← hg1]; exact scOK_step hs
  have hP : va_P G.1 vwCl (wSc b G.2.1 t1) H := hP
  have hD : va_D A (wSc b G.2.1 t1) := hD
  refine lv_aload_n hx hb dX3_readStop_4 rfl (lv_at hl 0 rfl) ?_
  refine va_get (D := G.1) (ci := 3) (v := .int t1.tok) (C := RX3) (T := TX3) (N := 7) hx hb hts i_X3_readStop_X3 hown hK.1 hP 0 rfl rfl 4 (by decide) f34 (fun _ h9 => h9) rfl dX3_readStop_5 ?_
  refine lv_iconst (v := 3) hx hb dX3_readStop_8 (by decide) ?_
  refine lv_icmp_eq (tgt := 14) hx hb dX3_readStop_9 (by decide) (fun c_2 => ?_) (fun c_2 => ?_)
  · skip
    refine lv_aload_n hx hb dX3_readStop_14 rfl (lv_at hl 0 rfl) ?_
    refine g_wrV (As := []) (rest := []) (nL := 1) hx hb hml hown hts (c_X3_step lz G b t1 ok1) gX3_readStop_X3_step rfl h_X3_step ⟨Nat.le_of_ble_eq_true rfl, Nat.le_of_ble_eq_true rfl⟩ hK hP hD hS [0, 1] rfl rfl rfl (ws1 := wSc b G.2.1 (scStep t1)) rfl [b 0, b 1] rfl rfl (ci := 3) rfl rfl rfl rfl hl.1 rfl (Nat.le_of_ble_eq_true rfl) ⟨Nat.le_refl _, Nat.le_refl _⟩ dX3_readStop_15 (fun H locs hP hD hS => ?_)
    generalize hg3 : scStep t1 = t3 at hP hD ⊢
    have ok3 : scOK t3 := by rw [← hg3]; exact scOK_step ok1
    have hP : va_P G.1 vwCl (wSc b G.2.1 t3) H := hP
    have hD : va_D A (wSc b G.2.1 t3) := hD
    refine lv_iconst (v := 1) hx hb dX3_readStop_18 (by decide) ?_
    have hP : va_P G.1 vwCl (wSc b G.2.1 (scStop s)) H := by
      rw [scStop]
      try simp only [hg1, hg3]
      (first | rw [if_pos c_2] | rw [if_neg (by rw [c_2]; decide)] | rw [if_neg c_2] | skip)
      exact hP
    exact g_wz hx hb hr hlocks hAe hP hS dX3_readStop_19 (by simp only [stopOk] <;> (try simp only [hg1, hg3]) <;> (try simp only [c_2, decide_true, decide_false, if_true, if_false, reduceIte, Bool.false_eq_true]) <;> (first | done | rfl))
  · skip
    refine lv_iconst (v := 0) hx hb dX3_readStop_12 (by decide) ?_
    have hP : va_P G.1 vwCl (wSc b G.2.1 (scStop s)) H := by
      rw [scStop]
      try simp only [hg1]
      (first | rw [if_pos c_2] | rw [if_neg (by rw [c_2]; decide)] | rw [if_neg c_2] | skip)
      exact hP
    exact g_wz hx hb hr hlocks hAe hP hS dX3_readStop_13 (by simp only [stopOk] <;> (try simp only [hg1]) <;> (try simp only [c_2, decide_true, decide_false, if_true, if_false, reduceIte, Bool.false_eq_true]) <;> (first | done | rfl))

theorem i_X3_readPlaces_X0 : ∀ w ∈ wsX00, w ∈ wsX3_readPlaces := by decide +kernel
theorem i_X3_readPlaces_X3 : ∀ w ∈ wsX30, w ∈ wsX3_readPlaces := by decide +kernel
theorem h_X3_readPlaces : yX3_readPlaces.cls = RX3 ∧ yX3_readPlaces.cls ≠ "java/lang/invoke/MethodHandle" ∧ yX3_readPlaces.cls ≠ "java/lang/invoke/VarHandle" ∧ (parseMethodDescriptor yX3_readPlaces.desc).map (fun d => d.parameters.length) = some 1 := by decide +kernel
set_option maxHeartbeats 4000000 in
set_option maxRecDepth 100000 in
theorem c_X3_readPlaces (lz : Launch) (G : gG) (b a : Nat → Nat) (s : ScS) (h : HaS) (hs : scOK s) (hh : haOK h) : gWr lz yX3_readPlaces wsX3_readPlaces 3 G [.ref (b 0), .ref (a 0)] (wSc b G.2.1 s ++ wHa a G.2.1 h) (wSc b G.2.1 (rPl s h).1 ++ wHa a G.2.1 (rPl s h).2.1) (some (.int (bI (rPl s h).2.2))) := by
  refine g_wr (by decide) rfl (Nat.le_of_ble_eq_true rfl) ?_
  intro pz ez sz mz bz tz cz hx hb hr hml hown hts hlocks hK A hAe hP hD hS ls hl
  have hl : lv_has ls 2 [(0, .ref (b 0)), (1, .ref (a 0))] := hl
  have f44 := hts (.fieldLink RX3 44 "WhisperRing$Script" "value" "I") (by decide +kernel)
  have f73 := hts (.fieldLink RX3 73 "WhisperRing$Hall" "places" "I") (by decide +kernel)
  refine lv_aload_n hx hb dX3_readPlaces_0 rfl (lv_at hl 0 rfl) ?_
  refine lv_iconst (v := 4) hx hb dX3_readPlaces_1 (by decide) ?_
  refine lv_bipush (v := 24) hx hb dX3_readPlaces_2 (by decide) ?_
  refine g_wrV (As := [.int 4, .int 24]) (rest := []) (nL := 2) hx hb hml hown hts (c_X3_readNumber lz G b s 4 24 hs) gX3_readPlaces_X3_readNumber rfl h_X3_readNumber ⟨Nat.le_of_ble_eq_true rfl, Nat.le_of_ble_eq_true rfl⟩ hK hP hD hS [0, 1] rfl rfl rfl (ws1 := wSc b G.2.1 (scStep s) ++ wHa a G.2.1 h) rfl [b 0, b 1, a 0, a 1, a 2, a 3, a 4, a 5, a 6, a 7, a 8, a 9] rfl rfl (ci := 3) rfl rfl rfl rfl hl.1 rfl (Nat.le_of_ble_eq_true rfl) ⟨Nat.le_refl _, Nat.le_refl _⟩ dX3_readPlaces_4 (fun H locs hP hD hS => ?_)
  generalize hg1 : scStep s = t1 at hP hD ⊢
  have ok1 : scOK t1 := by rw [← hg1]; exact scOK_step hs
  have hP : va_P G.1 vwCl (wSc b G.2.1 t1 ++ wHa a G.2.1 h) H := hP
  have hD : va_D A (wSc b G.2.1 t1 ++ wHa a G.2.1 h) := hD
  refine lv_if_ne (tgt := 12) hx hb dX3_readPlaces_7 (by decide) (fun c_2 => ?_) (fun c_2 => ?_)
  · skip
    have c_2 := bI_1 c_2
    refine lv_aload_n hx hb dX3_readPlaces_12 rfl (lv_at hl 1 rfl) ?_
    refine lv_aload_n hx hb dX3_readPlaces_13 rfl (lv_at hl 0 rfl) ?_
    refine va_get (D := G.1) (ci := 3) (v := .int t1.val) (C := RX3) (T := TX3) (N := 7) hx hb hts i_X3_readPlaces_X3 hown hK.1 hP 0 rfl rfl 5 (by decide) f44 (fun _ h9 => h9) rfl dX3_readPlaces_14 ?_
    refine va_put (D := G.1) (ci := 0) (v := .int t1.val) (ty := .int) (C := RX0) (T := TX0) (N := 6) hx hb hts i_X3_readPlaces_X0 tyX0 tyX0_ok nmX0 hown hK.1 hP hD hS 2 rfl rfl 0 (by decide) f73 (fun _ h9 => h9) rfl (by decide +kernel) rfl rfl (Nat.le_of_ble_eq_true rfl) dX3_readPlaces_17 (fun H locs hP hD hS => ?_)
    have hP : va_P G.1 vwCl (wSc b G.2.1 t1 ++ wHa a G.2.1 (t1.val, h.loss, h.nich, h.mo, h.ats, h.str)) H := hP
    have hD : va_D A (wSc b G.2.1 t1 ++ wHa a G.2.1 (t1.val, h.loss, h.nich, h.mo, h.ats, h.str)) := hD
    refine lv_aload_n hx hb dX3_readPlaces_20 rfl (lv_at hl 0 rfl) ?_
    refine g_wrV (As := []) (rest := []) (nL := 2) hx hb hml hown hts (c_X3_readStop lz G b t1 ok1) gX3_readPlaces_X3_readStop rfl h_X3_readStop ⟨Nat.le_of_ble_eq_true rfl, Nat.le_of_ble_eq_true rfl⟩ hK hP hD hS [0, 1] rfl rfl rfl (ws1 := wSc b G.2.1 (scStop t1) ++ wHa a G.2.1 (t1.val, h.loss, h.nich, h.mo, h.ats, h.str)) rfl [b 0, b 1, a 0, a 1, a 2, a 3, a 4, a 5, a 6, a 7, a 8, a 9] rfl rfl (ci := 3) rfl rfl rfl rfl hl.1 rfl (Nat.le_of_ble_eq_true rfl) ⟨Nat.le_refl _, Nat.le_refl _⟩ dX3_readPlaces_21 (fun H locs hP hD hS => ?_)
    generalize hg3 : scStop t1 = t3 at hP hD ⊢
    have ok3 : scOK t3 := by rw [← hg3]; exact scOK_stop ok1
    have hP : va_P G.1 vwCl (wSc b G.2.1 t3 ++ wHa a G.2.1 (t1.val, h.loss, h.nich, h.mo, h.ats, h.str)) H := hP
    have hD : va_D A (wSc b G.2.1 t3 ++ wHa a G.2.1 (t1.val, h.loss, h.nich, h.mo, h.ats, h.str)) := hD
    have hP : va_P G.1 vwCl (wSc b G.2.1 (rPl s h).1 ++ wHa a G.2.1 (rPl s h).2.1) H := by
      rw [rPl]
      try simp only [hg1, hg3]
      (first | rw [if_pos c_2] | rw [if_neg (by rw [c_2]; decide)] | rw [if_neg c_2] | skip)
      exact hP
    exact g_wz hx hb hr hlocks hAe hP hS dX3_readPlaces_24 (by simp only [rPl] <;> (try simp only [hg1, hg3]) <;> (try simp only [c_2, decide_true, decide_false, if_true, if_false, reduceIte, Bool.false_eq_true]) <;> (first | done | rfl))
  · skip
    have c_2 := bI_0 c_2
    refine lv_iconst (v := 0) hx hb dX3_readPlaces_10 (by decide) ?_
    have hP : va_P G.1 vwCl (wSc b G.2.1 (rPl s h).1 ++ wHa a G.2.1 (rPl s h).2.1) H := by
      rw [rPl]
      try simp only [hg1]
      (first | rw [if_pos c_2] | rw [if_neg (by rw [c_2]; decide)] | rw [if_neg c_2] | skip)
      exact hP
    exact g_wz hx hb hr hlocks hAe hP hS dX3_readPlaces_11 (by simp only [rPl] <;> (try simp only [hg1]) <;> (try simp only [c_2, decide_true, decide_false, if_true, if_false, reduceIte, Bool.false_eq_true]) <;> (first | done | rfl))

theorem i_X3_readLoss_X0 : ∀ w ∈ wsX00, w ∈ wsX3_readLoss := by decide +kernel
theorem i_X3_readLoss_X3 : ∀ w ∈ wsX30, w ∈ wsX3_readLoss := by decide +kernel
theorem h_X3_readLoss : yX3_readLoss.cls = RX3 ∧ yX3_readLoss.cls ≠ "java/lang/invoke/MethodHandle" ∧ yX3_readLoss.cls ≠ "java/lang/invoke/VarHandle" ∧ (parseMethodDescriptor yX3_readLoss.desc).map (fun d => d.parameters.length) = some 1 := by decide +kernel
set_option maxHeartbeats 4000000 in
set_option maxRecDepth 100000 in
theorem c_X3_readLoss (lz : Launch) (G : gG) (b a : Nat → Nat) (s : ScS) (h : HaS) (hs : scOK s) (hh : haOK h) : gWr lz yX3_readLoss wsX3_readLoss 3 G [.ref (b 0), .ref (a 0)] (wSc b G.2.1 s ++ wHa a G.2.1 h) (wSc b G.2.1 (rLo s h).1 ++ wHa a G.2.1 (rLo s h).2.1) (some (.int (bI (rLo s h).2.2))) := by
  refine g_wr (by decide) rfl (Nat.le_of_ble_eq_true rfl) ?_
  intro pz ez sz mz bz tz cz hx hb hr hml hown hts hlocks hK A hAe hP hD hS ls hl
  have hl : lv_has ls 2 [(0, .ref (b 0)), (1, .ref (a 0))] := hl
  have f24 := hts (.fieldLink RX3 24 "WhisperRing$Script" "lossTold" "Z") (by decide +kernel)
  have f44 := hts (.fieldLink RX3 44 "WhisperRing$Script" "value" "I") (by decide +kernel)
  have f80 := hts (.fieldLink RX3 80 "WhisperRing$Hall" "loss" "I") (by decide +kernel)
  refine lv_aload_n hx hb dX3_readLoss_0 rfl (lv_at hl 0 rfl) ?_
  refine lv_iconst (v := 1) hx hb dX3_readLoss_1 (by decide) ?_
  refine lv_bipush (v := 9) hx hb dX3_readLoss_2 (by decide) ?_
  refine g_wrV (As := [.int 1, .int 9]) (rest := []) (nL := 2) hx hb hml hown hts (c_X3_readNumber lz G b s 1 9 hs) gX3_readLoss_X3_readNumber rfl h_X3_readNumber ⟨Nat.le_of_ble_eq_true rfl, Nat.le_of_ble_eq_true rfl⟩ hK hP hD hS [0, 1] rfl rfl rfl (ws1 := wSc b G.2.1 (scStep s) ++ wHa a G.2.1 h) rfl [b 0, b 1, a 0, a 1, a 2, a 3, a 4, a 5, a 6, a 7, a 8, a 9] rfl rfl (ci := 3) rfl rfl rfl rfl hl.1 rfl (Nat.le_of_ble_eq_true rfl) ⟨Nat.le_refl _, Nat.le_refl _⟩ dX3_readLoss_4 (fun H locs hP hD hS => ?_)
  generalize hg1 : scStep s = t1 at hP hD ⊢
  have ok1 : scOK t1 := by rw [← hg1]; exact scOK_step hs
  have hP : va_P G.1 vwCl (wSc b G.2.1 t1 ++ wHa a G.2.1 h) H := hP
  have hD : va_D A (wSc b G.2.1 t1 ++ wHa a G.2.1 h) := hD
  refine lv_if_ne (tgt := 12) hx hb dX3_readLoss_7 (by decide) (fun c_2 => ?_) (fun c_2 => ?_)
  · skip
    have c_2 := bI_1 c_2
    refine lv_aload_n hx hb dX3_readLoss_12 rfl (lv_at hl 1 rfl) ?_
    refine lv_aload_n hx hb dX3_readLoss_13 rfl (lv_at hl 0 rfl) ?_
    refine va_get (D := G.1) (ci := 3) (v := .int t1.val) (C := RX3) (T := TX3) (N := 7) hx hb hts i_X3_readLoss_X3 hown hK.1 hP 0 rfl rfl 5 (by decide) f44 (fun _ h9 => h9) rfl dX3_readLoss_14 ?_
    refine va_put (D := G.1) (ci := 0) (v := .int t1.val) (ty := .int) (C := RX0) (T := TX0) (N := 6) hx hb hts i_X3_readLoss_X0 tyX0 tyX0_ok nmX0 hown hK.1 hP hD hS 2 rfl rfl 1 (by decide) f80 (fun _ h9 => h9) rfl (by decide +kernel) rfl rfl (Nat.le_of_ble_eq_true rfl) dX3_readLoss_17 (fun H locs hP hD hS => ?_)
    have hP : va_P G.1 vwCl (wSc b G.2.1 t1 ++ wHa a G.2.1 (h.pl, t1.val, h.nich, h.mo, h.ats, h.str)) H := hP
    have hD : va_D A (wSc b G.2.1 t1 ++ wHa a G.2.1 (h.pl, t1.val, h.nich, h.mo, h.ats, h.str)) := hD
    refine lv_aload_n hx hb dX3_readLoss_20 rfl (lv_at hl 0 rfl) ?_
    refine lv_iconst (v := 1) hx hb dX3_readLoss_21 (by decide) ?_
    refine va_put (D := G.1) (ci := 3) (v := .int 1) (ty := .boolean) (C := RX3) (T := TX3) (N := 7) hx hb hts i_X3_readLoss_X3 tyX3 tyX3_ok nmX3 hown hK.1 hP hD hS 0 rfl rfl 6 (by decide) f24 (fun _ h9 => h9) rfl (by decide +kernel) rfl rfl (Nat.le_of_ble_eq_true rfl) dX3_readLoss_22 (fun H locs hP hD hS => ?_)
    have hP : va_P G.1 vwCl (wSc b G.2.1 (t1.size, t1.bytes, t1.next, t1.tokAt, t1.tok, t1.val, 1) ++ wHa a G.2.1 (h.pl, t1.val, h.nich, h.mo, h.ats, h.str)) H := hP
    have hD : va_D A (wSc b G.2.1 (t1.size, t1.bytes, t1.next, t1.tokAt, t1.tok, t1.val, 1) ++ wHa a G.2.1 (h.pl, t1.val, h.nich, h.mo, h.ats, h.str)) := hD
    refine lv_aload_n hx hb dX3_readLoss_25 rfl (lv_at hl 0 rfl) ?_
    refine g_wrV (As := []) (rest := []) (nL := 2) hx hb hml hown hts (c_X3_readStop lz G b (t1.size, t1.bytes, t1.next, t1.tokAt, t1.tok, t1.val, 1) ok1) gX3_readLoss_X3_readStop rfl h_X3_readStop ⟨Nat.le_of_ble_eq_true rfl, Nat.le_of_ble_eq_true rfl⟩ hK hP hD hS [0, 1] rfl rfl rfl (ws1 := wSc b G.2.1 (scStop (t1.size, t1.bytes, t1.next, t1.tokAt, t1.tok, t1.val, 1)) ++ wHa a G.2.1 (h.pl, t1.val, h.nich, h.mo, h.ats, h.str)) rfl [b 0, b 1, a 0, a 1, a 2, a 3, a 4, a 5, a 6, a 7, a 8, a 9] rfl rfl (ci := 3) rfl rfl rfl rfl hl.1 rfl (Nat.le_of_ble_eq_true rfl) ⟨Nat.le_refl _, Nat.le_refl _⟩ dX3_readLoss_26 (fun H locs hP hD hS => ?_)
    generalize hg3 : scStop (t1.size, t1.bytes, t1.next, t1.tokAt, t1.tok, t1.val, 1) = t3 at hP hD ⊢
    have ok3 : scOK t3 := by rw [← hg3]; exact scOK_stop ok1
    have hP : va_P G.1 vwCl (wSc b G.2.1 t3 ++ wHa a G.2.1 (h.pl, t1.val, h.nich, h.mo, h.ats, h.str)) H := hP
    have hD : va_D A (wSc b G.2.1 t3 ++ wHa a G.2.1 (h.pl, t1.val, h.nich, h.mo, h.ats, h.str)) := hD
    have hP : va_P G.1 vwCl (wSc b G.2.1 (rLo s h).1 ++ wHa a G.2.1 (rLo s h).2.1) H := by
      rw [rLo]
      try simp only [hg1, hg3]
      (first | rw [if_pos c_2] | rw [if_neg (by rw [c_2]; decide)] | rw [if_neg c_2] | skip)
      try (rw [scTold, hg3])
      exact hP
    exact g_wz hx hb hr hlocks hAe hP hS dX3_readLoss_29 (by simp only [rLo] <;> (try simp only [hg1, hg3]) <;> (try simp only [c_2, decide_true, decide_false, if_true, if_false, reduceIte, Bool.false_eq_true]) <;> (first | done | rfl))
  · skip
    have c_2 := bI_0 c_2
    refine lv_iconst (v := 0) hx hb dX3_readLoss_10 (by decide) ?_
    have hP : va_P G.1 vwCl (wSc b G.2.1 (rLo s h).1 ++ wHa a G.2.1 (rLo s h).2.1) H := by
      rw [rLo]
      try simp only [hg1]
      (first | rw [if_pos c_2] | rw [if_neg (by rw [c_2]; decide)] | rw [if_neg c_2] | skip)
      try (rw [scTold, hg1])
      exact hP
    exact g_wz hx hb hr hlocks hAe hP hS dX3_readLoss_11 (by simp only [rLo] <;> (try simp only [hg1]) <;> (try simp only [c_2, decide_true, decide_false, if_true, if_false, reduceIte, Bool.false_eq_true]) <;> (first | done | rfl))

theorem i_X3_readNiche_X0 : ∀ w ∈ wsX00, w ∈ wsX3_readNiche := by decide +kernel
theorem i_X3_readNiche_X3 : ∀ w ∈ wsX30, w ∈ wsX3_readNiche := by decide +kernel
theorem h_X3_readNiche : yX3_readNiche.cls = RX3 ∧ yX3_readNiche.cls ≠ "java/lang/invoke/MethodHandle" ∧ yX3_readNiche.cls ≠ "java/lang/invoke/VarHandle" ∧ (parseMethodDescriptor yX3_readNiche.desc).map (fun d => d.parameters.length) = some 1 := by decide +kernel
set_option maxHeartbeats 4000000 in
set_option maxRecDepth 100000 in
theorem c_X3_readNiche (lz : Launch) (G : gG) (b a : Nat → Nat) (s : ScS) (h : HaS) (hs : scOK s) (hh : haOK h) : gWr lz yX3_readNiche wsX3_readNiche 3 G [.ref (b 0), .ref (a 0)] (wSc b G.2.1 s ++ wHa a G.2.1 h) (wSc b G.2.1 (rNi s h).1 ++ wHa a G.2.1 (rNi s h).2.1) (some (.int (bI (rNi s h).2.2))) := by
  refine g_wr (by decide) rfl (Nat.le_of_ble_eq_true rfl) ?_
  intro pz ez sz mz bz tz cz hx hb hr hml hown hts hlocks hK A hAe hP hD hS ls hl
  have hl : lv_has ls 2 [(0, .ref (b 0)), (1, .ref (a 0))] := hl
  have f44 := hts (.fieldLink RX3 44 "WhisperRing$Script" "value" "I") (by decide +kernel)
  have f73 := hts (.fieldLink RX3 73 "WhisperRing$Hall" "places" "I") (by decide +kernel)
  have f83 := hts (.fieldLink RX3 83 "WhisperRing$Hall" "niches" "I") (by decide +kernel)
  refine lv_aload_n hx hb dX3_readNiche_0 rfl (lv_at hl 0 rfl) ?_
  refine lv_iconst (v := 0) hx hb dX3_readNiche_1 (by decide) ?_
  refine lv_aload_n hx hb dX3_readNiche_2 rfl (lv_at hl 1 rfl) ?_
  refine va_get (D := G.1) (ci := 0) (v := .int h.pl) (C := RX0) (T := TX0) (N := 6) hx hb hts i_X3_readNiche_X0 hown hK.1 hP 2 rfl rfl 0 (by decide) f73 (fun _ h9 => h9) rfl dX3_readNiche_3 ?_
  refine lv_iconst (v := 1) hx hb dX3_readNiche_6 (by decide) ?_
  refine lv_isub hx hb dX3_readNiche_7 ?_
  refine g_wrV (As := [.int 0, .int (h.pl - 1)]) (rest := []) (nL := 2) hx hb hml hown hts (c_X3_readNumber lz G b s 0 (h.pl - 1) hs) gX3_readNiche_X3_readNumber rfl h_X3_readNumber ⟨Nat.le_of_ble_eq_true rfl, Nat.le_of_ble_eq_true rfl⟩ hK hP hD hS [0, 1] rfl rfl rfl (ws1 := wSc b G.2.1 (scStep s) ++ wHa a G.2.1 h) rfl [b 0, b 1, a 0, a 1, a 2, a 3, a 4, a 5, a 6, a 7, a 8, a 9] rfl rfl (ci := 3) rfl rfl rfl rfl hl.1 rfl (Nat.le_of_ble_eq_true rfl) ⟨Nat.le_refl _, Nat.le_refl _⟩ dX3_readNiche_8 (fun H locs hP hD hS => ?_)
  generalize hg1 : scStep s = t1 at hP hD ⊢
  have ok1 : scOK t1 := by rw [← hg1]; exact scOK_step hs
  have hP : va_P G.1 vwCl (wSc b G.2.1 t1 ++ wHa a G.2.1 h) H := hP
  have hD : va_D A (wSc b G.2.1 t1 ++ wHa a G.2.1 h) := hD
  refine lv_if_ne (tgt := 16) hx hb dX3_readNiche_11 (by decide) (fun c_2 => ?_) (fun c_2 => ?_)
  · skip
    have c_2 := bI_1 c_2
    refine lv_aload_n hx hb dX3_readNiche_16 rfl (lv_at hl 1 rfl) ?_
    refine lv_dup hx hb dX3_readNiche_17 rfl ?_
    refine va_get (D := G.1) (ci := 0) (v := .int h.nich) (C := RX0) (T := TX0) (N := 6) hx hb hts i_X3_readNiche_X0 hown hK.1 hP 2 rfl rfl 2 (by decide) f83 (fun _ h9 => h9) rfl dX3_readNiche_18 ?_
    refine lv_iconst (v := 1) hx hb dX3_readNiche_21 (by decide) ?_
    refine lv_aload_n hx hb dX3_readNiche_22 rfl (lv_at hl 0 rfl) ?_
    refine va_get (D := G.1) (ci := 3) (v := .int t1.val) (C := RX3) (T := TX3) (N := 7) hx hb hts i_X3_readNiche_X3 hown hK.1 hP 0 rfl rfl 5 (by decide) f44 (fun _ h9 => h9) rfl dX3_readNiche_23 ?_
    refine lv_ishl hx hb dX3_readNiche_26 ?_
    refine lv_ior hx hb dX3_readNiche_27 ?_
    refine va_put (D := G.1) (ci := 0) (v := .int (h.nich ||| (1 <<< (t1.val &&& 31)))) (ty := .int) (C := RX0) (T := TX0) (N := 6) hx hb hts i_X3_readNiche_X0 tyX0 tyX0_ok nmX0 hown hK.1 hP hD hS 2 rfl rfl 2 (by decide) f83 (fun _ h9 => h9) rfl (by decide +kernel) rfl rfl (Nat.le_of_ble_eq_true rfl) dX3_readNiche_28 (fun H locs hP hD hS => ?_)
    have hP : va_P G.1 vwCl (wSc b G.2.1 t1 ++ wHa a G.2.1 (h.pl, h.loss, h.nich ||| (1 <<< (t1.val &&& 31)), h.mo, h.ats, h.str)) H := hP
    have hD : va_D A (wSc b G.2.1 t1 ++ wHa a G.2.1 (h.pl, h.loss, h.nich ||| (1 <<< (t1.val &&& 31)), h.mo, h.ats, h.str)) := hD
    refine lv_aload_n hx hb dX3_readNiche_31 rfl (lv_at hl 0 rfl) ?_
    refine g_wrV (As := []) (rest := []) (nL := 2) hx hb hml hown hts (c_X3_readStop lz G b t1 ok1) gX3_readNiche_X3_readStop rfl h_X3_readStop ⟨Nat.le_of_ble_eq_true rfl, Nat.le_of_ble_eq_true rfl⟩ hK hP hD hS [0, 1] rfl rfl rfl (ws1 := wSc b G.2.1 (scStop t1) ++ wHa a G.2.1 (h.pl, h.loss, h.nich ||| (1 <<< (t1.val &&& 31)), h.mo, h.ats, h.str)) rfl [b 0, b 1, a 0, a 1, a 2, a 3, a 4, a 5, a 6, a 7, a 8, a 9] rfl rfl (ci := 3) rfl rfl rfl rfl hl.1 rfl (Nat.le_of_ble_eq_true rfl) ⟨Nat.le_refl _, Nat.le_refl _⟩ dX3_readNiche_32 (fun H locs hP hD hS => ?_)
    generalize hg3 : scStop t1 = t3 at hP hD ⊢
    have ok3 : scOK t3 := by rw [← hg3]; exact scOK_stop ok1
    have hP : va_P G.1 vwCl (wSc b G.2.1 t3 ++ wHa a G.2.1 (h.pl, h.loss, h.nich ||| (1 <<< (t1.val &&& 31)), h.mo, h.ats, h.str)) H := hP
    have hD : va_D A (wSc b G.2.1 t3 ++ wHa a G.2.1 (h.pl, h.loss, h.nich ||| (1 <<< (t1.val &&& 31)), h.mo, h.ats, h.str)) := hD
    have hP : va_P G.1 vwCl (wSc b G.2.1 (rNi s h).1 ++ wHa a G.2.1 (rNi s h).2.1) H := by
      rw [rNi]
      try simp only [hg1, hg3]
      (first | rw [if_pos c_2] | rw [if_neg (by rw [c_2]; decide)] | rw [if_neg c_2] | skip)
      exact hP
    exact g_wz hx hb hr hlocks hAe hP hS dX3_readNiche_35 (by simp only [rNi] <;> (try simp only [hg1, hg3]) <;> (try simp only [c_2, decide_true, decide_false, if_true, if_false, reduceIte, Bool.false_eq_true]) <;> (first | done | rfl))
  · skip
    have c_2 := bI_0 c_2
    refine lv_iconst (v := 0) hx hb dX3_readNiche_14 (by decide) ?_
    have hP : va_P G.1 vwCl (wSc b G.2.1 (rNi s h).1 ++ wHa a G.2.1 (rNi s h).2.1) H := by
      rw [rNi]
      try simp only [hg1]
      (first | rw [if_pos c_2] | rw [if_neg (by rw [c_2]; decide)] | rw [if_neg c_2] | skip)
      exact hP
    exact g_wz hx hb hr hlocks hAe hP hS dX3_readNiche_15 (by simp only [rNi] <;> (try simp only [hg1]) <;> (try simp only [c_2, decide_true, decide_false, if_true, if_false, reduceIte, Bool.false_eq_true]) <;> (first | done | rfl))

theorem i_X3_readSaying_X0 : ∀ w ∈ wsX00, w ∈ wsX3_readSaying := by decide +kernel
theorem i_X3_readSaying_X3 : ∀ w ∈ wsX30, w ∈ wsX3_readSaying := by decide +kernel
theorem h_X3_readSaying : yX3_readSaying.cls = RX3 ∧ yX3_readSaying.cls ≠ "java/lang/invoke/MethodHandle" ∧ yX3_readSaying.cls ≠ "java/lang/invoke/VarHandle" ∧ (parseMethodDescriptor yX3_readSaying.desc).map (fun d => d.parameters.length) = some 1 := by decide +kernel
set_option maxHeartbeats 4000000 in
set_option maxRecDepth 100000 in
theorem c_X3_readSaying (lz : Launch) (G : gG) (b a : Nat → Nat) (s : ScS) (h : HaS) (hs : scOK s) (hh : haOK h) : gWr lz yX3_readSaying wsX3_readSaying 3 G [.ref (b 0), .ref (a 0)] (wSc b G.2.1 s ++ wHa a G.2.1 h) (wSc b G.2.1 (rSa s h).1 ++ wHa a G.2.1 (rSa s h).2.1) (some (.int (bI (rSa s h).2.2))) := by
  refine g_wr (by decide) rfl (Nat.le_of_ble_eq_true rfl) ?_
  intro pz ez sz mz bz tz cz hx hb hr hml hown hts hlocks hK A hAe hP hD hS ls hl
  have hl : lv_has ls 5 [(0, .ref (b 0)), (1, .ref (a 0))] := hl
  have f44 := hts (.fieldLink RX3 44 "WhisperRing$Script" "value" "I") (by decide +kernel)
  have f57 := hts (.fieldLink RX3 57 "WhisperRing$Hall" "now" "LWhisperRing$Moment;") (by decide +kernel)
  have f73 := hts (.fieldLink RX3 73 "WhisperRing$Hall" "places" "I") (by decide +kernel)
  obtain ⟨n, hn8, hn⟩ := hh
  have hnc : h.mo.sayings.toNatClampNeg = n := by rw [hn]; exact nI_clamp (by omega)
  refine lv_aload_n hx hb dX3_readSaying_0 rfl (lv_at hl 0 rfl) ?_
  refine lv_iconst (v := 0) hx hb dX3_readSaying_1 (by decide) ?_
  refine lv_aload_n hx hb dX3_readSaying_2 rfl (lv_at hl 1 rfl) ?_
  refine va_get (D := G.1) (ci := 0) (v := .int h.pl) (C := RX0) (T := TX0) (N := 6) hx hb hts i_X3_readSaying_X0 hown hK.1 hP 2 rfl rfl 0 (by decide) f73 (fun _ h9 => h9) rfl dX3_readSaying_3 ?_
  refine lv_iconst (v := 1) hx hb dX3_readSaying_6 (by decide) ?_
  refine lv_isub hx hb dX3_readSaying_7 ?_
  refine g_wrV (As := [.int 0, .int (h.pl - 1)]) (rest := []) (nL := 5) hx hb hml hown hts (c_X3_readNumber lz G b s 0 (h.pl - 1) hs) gX3_readSaying_X3_readNumber rfl h_X3_readNumber ⟨Nat.le_of_ble_eq_true rfl, Nat.le_of_ble_eq_true rfl⟩ hK hP hD hS [0, 1] rfl rfl rfl (ws1 := wSc b G.2.1 (scStep s) ++ wHa a G.2.1 h) rfl [b 0, b 1, a 0, a 1, a 2, a 3, a 4, a 5, a 6, a 7, a 8, a 9] rfl rfl (ci := 3) rfl rfl rfl rfl hl.1 rfl (Nat.le_of_ble_eq_true rfl) ⟨Nat.le_refl _, Nat.le_refl _⟩ dX3_readSaying_8 (fun H locs hP hD hS => ?_)
  generalize hg1 : scStep s = t1 at hP hD ⊢
  have ok1 : scOK t1 := by rw [← hg1]; exact scOK_step hs
  have hP : va_P G.1 vwCl (wSc b G.2.1 t1 ++ wHa a G.2.1 h) H := hP
  have hD : va_D A (wSc b G.2.1 t1 ++ wHa a G.2.1 h) := hD
  refine lv_if_ne (tgt := 16) hx hb dX3_readSaying_11 (by decide) (fun c_2 => ?_) (fun c_2 => ?_)
  · skip
    have c_2 := bI_1 c_2
    refine lv_aload_n hx hb dX3_readSaying_16 rfl (lv_at hl 0 rfl) ?_
    refine va_get (D := G.1) (ci := 3) (v := .int t1.val) (C := RX3) (T := TX3) (N := 7) hx hb hts i_X3_readSaying_X3 hown hK.1 hP 0 rfl rfl 5 (by decide) f44 (fun _ h9 => h9) rfl dX3_readSaying_17 ?_
    refine lv_istore_n (lv' := [(2, .int t1.val), (0, .ref (b 0)), (1, .ref (a 0))]) hx hb dX3_readSaying_20 rfl hl (by decide) rfl (fun ls hl => ?_)
    refine lv_aload_n hx hb dX3_readSaying_21 rfl (lv_at hl 1 rfl) ?_
    refine lv_iconst (v := 1) hx hb dX3_readSaying_22 (by decide) ?_
    refine lv_bipush (v := 6) hx hb dX3_readSaying_23 (by decide) ?_
    refine g_wrV (As := [.int 1, .int 6]) (rest := []) (nL := 5) hx hb hml hown hts (c_X3_readNumber lz G b t1 1 6 ok1) gX3_readSaying_X3_readNumber rfl h_X3_readNumber ⟨Nat.le_of_ble_eq_true rfl, Nat.le_of_ble_eq_true rfl⟩ hK hP hD hS [0, 1] rfl rfl rfl (ws1 := wSc b G.2.1 (scStep t1) ++ wHa a G.2.1 h) rfl [b 0, b 1, a 0, a 1, a 2, a 3, a 4, a 5, a 6, a 7, a 8, a 9] rfl rfl (ci := 3) rfl rfl rfl rfl hl.1 rfl (Nat.le_of_ble_eq_true rfl) ⟨Nat.le_refl _, Nat.le_refl _⟩ dX3_readSaying_25 (fun H locs hP hD hS => ?_)
    generalize hg3 : scStep t1 = t3 at hP hD ⊢
    have ok3 : scOK t3 := by rw [← hg3]; exact scOK_step ok1
    have hP : va_P G.1 vwCl (wSc b G.2.1 t3 ++ wHa a G.2.1 h) H := hP
    have hD : va_D A (wSc b G.2.1 t3 ++ wHa a G.2.1 h) := hD
    refine lv_if_ne (tgt := 33) hx hb dX3_readSaying_28 (by decide) (fun c_4 => ?_) (fun c_4 => ?_)
    · skip
      have c_4 := bI_1 c_4
      refine lv_aload_n hx hb dX3_readSaying_33 rfl (lv_at hl 1 rfl) ?_
      refine va_get (D := G.1) (ci := 3) (v := .int t3.val) (C := RX3) (T := TX3) (N := 7) hx hb hts i_X3_readSaying_X3 hown hK.1 hP 0 rfl rfl 5 (by decide) f44 (fun _ h9 => h9) rfl dX3_readSaying_34 ?_
      refine lv_istore_n (lv' := [(3, .int t3.val), (2, .int t1.val), (0, .ref (b 0)), (1, .ref (a 0))]) hx hb dX3_readSaying_37 rfl hl (by decide) rfl (fun ls hl => ?_)
      refine lv_aload_n hx hb dX3_readSaying_38 rfl (lv_at hl 2 rfl) ?_
      refine lv_iconst (v := 0) hx hb dX3_readSaying_39 (by decide) ?_
      refine lv_iconst (v := 1) hx hb dX3_readSaying_40 (by decide) ?_
      refine g_wrV (As := [.int 0, .int 1]) (rest := []) (nL := 5) hx hb hml hown hts (c_X3_readNumber lz G b t3 0 1 ok3) gX3_readSaying_X3_readNumber rfl h_X3_readNumber ⟨Nat.le_of_ble_eq_true rfl, Nat.le_of_ble_eq_true rfl⟩ hK hP hD hS [0, 1] rfl rfl rfl (ws1 := wSc b G.2.1 (scStep t3) ++ wHa a G.2.1 h) rfl [b 0, b 1, a 0, a 1, a 2, a 3, a 4, a 5, a 6, a 7, a 8, a 9] rfl rfl (ci := 3) rfl rfl rfl rfl hl.1 rfl (Nat.le_of_ble_eq_true rfl) ⟨Nat.le_refl _, Nat.le_refl _⟩ dX3_readSaying_41 (fun H locs hP hD hS => ?_)
      generalize hg5 : scStep t3 = t5 at hP hD ⊢
      have ok5 : scOK t5 := by rw [← hg5]; exact scOK_step ok3
      have hP : va_P G.1 vwCl (wSc b G.2.1 t5 ++ wHa a G.2.1 h) H := hP
      have hD : va_D A (wSc b G.2.1 t5 ++ wHa a G.2.1 h) := hD
      refine lv_if_ne (tgt := 49) hx hb dX3_readSaying_44 (by decide) (fun c_6 => ?_) (fun c_6 => ?_)
      · skip
        have c_6 := bI_1 c_6
        refine lv_aload_n hx hb dX3_readSaying_49 rfl (lv_at hl 2 rfl) ?_
        refine va_get (D := G.1) (ci := 3) (v := .int t5.val) (C := RX3) (T := TX3) (N := 7) hx hb hts i_X3_readSaying_X3 hown hK.1 hP 0 rfl rfl 5 (by decide) f44 (fun _ h9 => h9) rfl dX3_readSaying_50 ?_
        refine lv_istore (lv' := [(4, .int t5.val), (3, .int t3.val), (2, .int t1.val), (0, .ref (b 0)), (1, .ref (a 0))]) hx hb dX3_readSaying_53 hl (by decide) rfl (fun ls hl => ?_)
        refine lv_aload_n hx hb dX3_readSaying_55 rfl (lv_at hl 3 rfl) ?_
        refine lv_iconst (v := 1) hx hb dX3_readSaying_56 (by decide) ?_
        refine lv_bipush (v := 30) hx hb dX3_readSaying_57 (by decide) ?_
        refine g_wrV (As := [.int 1, .int 30]) (rest := []) (nL := 5) hx hb hml hown hts (c_X3_readNumber lz G b t5 1 30 ok5) gX3_readSaying_X3_readNumber rfl h_X3_readNumber ⟨Nat.le_of_ble_eq_true rfl, Nat.le_of_ble_eq_true rfl⟩ hK hP hD hS [0, 1] rfl rfl rfl (ws1 := wSc b G.2.1 (scStep t5) ++ wHa a G.2.1 h) rfl [b 0, b 1, a 0, a 1, a 2, a 3, a 4, a 5, a 6, a 7, a 8, a 9] rfl rfl (ci := 3) rfl rfl rfl rfl hl.1 rfl (Nat.le_of_ble_eq_true rfl) ⟨Nat.le_refl _, Nat.le_refl _⟩ dX3_readSaying_59 (fun H locs hP hD hS => ?_)
        generalize hg7 : scStep t5 = t7 at hP hD ⊢
        have ok7 : scOK t7 := by rw [← hg7]; exact scOK_step ok5
        have hP : va_P G.1 vwCl (wSc b G.2.1 t7 ++ wHa a G.2.1 h) H := hP
        have hD : va_D A (wSc b G.2.1 t7 ++ wHa a G.2.1 h) := hD
        refine lv_if_ne (tgt := 67) hx hb dX3_readSaying_62 (by decide) (fun c_8 => ?_) (fun c_8 => ?_)
        · skip
          have c_8 := bI_1 c_8
          refine lv_aload_n hx hb dX3_readSaying_67 rfl (lv_at hl 4 rfl) ?_
          refine va_get (D := G.1) (ci := 0) (v := .ref (a 1)) (C := RX0) (T := TX0) (N := 6) hx hb hts i_X3_readSaying_X0 hown hK.1 hP 2 rfl rfl 3 (by decide) f57 (fun _ h9 => h9) rfl dX3_readSaying_68 ?_
          refine lv_iload_n hx hb dX3_readSaying_71 rfl (lv_at hl 2 rfl) ?_
          refine lv_iload_n hx hb dX3_readSaying_72 rfl (lv_at hl 1 rfl) ?_
          refine lv_iload hx hb dX3_readSaying_73 (lv_at hl 0 rfl) ?_
          refine lv_aload_n hx hb dX3_readSaying_75 rfl (lv_at hl 3 rfl) ?_
          refine va_get (D := G.1) (ci := 3) (v := .int t7.val) (C := RX3) (T := TX3) (N := 7) hx hb hts i_X3_readSaying_X3 hown hK.1 hP 0 rfl rfl 5 (by decide) f44 (fun _ h9 => h9) rfl dX3_readSaying_76 ?_
          refine g_wrV (As := [.int t1.val, .int t3.val, .int t5.val, .int t7.val]) (rest := []) (nL := 5) hx hb hml hown hts (c_X2_add lz G (sh 1 a) h.mo n t1.val t3.val t5.val t7.val hn hn8) gX3_readSaying_X2_add rfl h_X2_add ⟨Nat.le_of_ble_eq_true rfl, Nat.le_of_ble_eq_true rfl⟩ hK hP hD hS [3, 4, 5, 6, 7, 8, 9] rfl rfl rfl (ws1 := wSc b G.2.1 t7 ++ wHa a G.2.1 (h.pl, h.loss, h.nich, (moAdd h.mo n t1.val t3.val t5.val t7.val), h.ats, h.str)) rfl [b 0, b 1, a 0, a 1, a 2, a 3, a 4, a 5, a 6, a 7, a 8, a 9] rfl rfl (ci := 2) rfl rfl rfl rfl hl.1 rfl (Nat.le_of_ble_eq_true rfl) ⟨Nat.le_refl _, Nat.le_refl _⟩ dX3_readSaying_79 (fun H locs hP hD hS => ?_)
          refine lv_if_eq (tgt := 96) hx hb dX3_readSaying_82 (by decide) (fun c_9 => ?_) (fun c_9 => ?_)
          · skip
            have c_9 := bI_0 c_9
            refine lv_iconst (v := 0) hx hb dX3_readSaying_96 (by decide) ?_
            have hP : va_P G.1 vwCl (wSc b G.2.1 (rSa s h).1 ++ wHa a G.2.1 (rSa s h).2.1) H := by
              rw [rSa]
              try simp only [hg1, hg3, hg5, hg7]
              (first | rw [if_pos c_2] | rw [if_neg (by rw [c_2]; decide)] | rw [if_neg c_2] | skip)
              (first | rw [if_pos c_4] | rw [if_neg (by rw [c_4]; decide)] | rw [if_neg c_4] | skip)
              (first | rw [if_pos c_6] | rw [if_neg (by rw [c_6]; decide)] | rw [if_neg c_6] | skip)
              (first | rw [if_pos c_8] | rw [if_neg (by rw [c_8]; decide)] | rw [if_neg c_8] | skip)
              (first | rw [if_pos c_9] | rw [if_neg (by rw [c_9]; decide)] | rw [if_neg c_9] | skip)
              try rw [hAddS, hnc]
              exact hP
            exact g_wz hx hb hr hlocks hAe hP hS dX3_readSaying_97 (by simp only [rSa] <;> (try simp only [hg1, hg3, hg5, hg7]) <;> (try simp only [c_2, c_4, c_6, c_8, c_9, decide_true, decide_false, if_true, if_false, reduceIte, Bool.false_eq_true]) <;> (first | done | rfl))
          · skip
            have c_9 := bI_1 c_9
            refine lv_aload_n hx hb dX3_readSaying_85 rfl (lv_at hl 3 rfl) ?_
            refine g_wrV (As := []) (rest := []) (nL := 5) hx hb hml hown hts (c_X3_readStop lz G b t7 ok7) gX3_readSaying_X3_readStop rfl h_X3_readStop ⟨Nat.le_of_ble_eq_true rfl, Nat.le_of_ble_eq_true rfl⟩ hK hP hD hS [0, 1] rfl rfl rfl (ws1 := wSc b G.2.1 (scStop t7) ++ wHa a G.2.1 (h.pl, h.loss, h.nich, (moAdd h.mo n t1.val t3.val t5.val t7.val), h.ats, h.str)) rfl [b 0, b 1, a 0, a 1, a 2, a 3, a 4, a 5, a 6, a 7, a 8, a 9] rfl rfl (ci := 3) rfl rfl rfl rfl hl.1 rfl (Nat.le_of_ble_eq_true rfl) ⟨Nat.le_refl _, Nat.le_refl _⟩ dX3_readSaying_86 (fun H locs hP hD hS => ?_)
            generalize hg10 : scStop t7 = t10 at hP hD ⊢
            have ok10 : scOK t10 := by rw [← hg10]; exact scOK_stop ok7
            have hP : va_P G.1 vwCl (wSc b G.2.1 t10 ++ wHa a G.2.1 (h.pl, h.loss, h.nich, (moAdd h.mo n t1.val t3.val t5.val t7.val), h.ats, h.str)) H := hP
            have hD : va_D A (wSc b G.2.1 t10 ++ wHa a G.2.1 (h.pl, h.loss, h.nich, (moAdd h.mo n t1.val t3.val t5.val t7.val), h.ats, h.str)) := hD
            refine lv_if_eq (tgt := 96) hx hb dX3_readSaying_89 (by decide) (fun c_11 => ?_) (fun c_11 => ?_)
            · skip
              have c_11 := bI_0 c_11
              refine lv_iconst (v := 0) hx hb dX3_readSaying_96 (by decide) ?_
              have hP : va_P G.1 vwCl (wSc b G.2.1 (rSa s h).1 ++ wHa a G.2.1 (rSa s h).2.1) H := by
                rw [rSa]
                try simp only [hg1, hg3, hg5, hg7, hg10]
                (first | rw [if_pos c_2] | rw [if_neg (by rw [c_2]; decide)] | rw [if_neg c_2] | skip)
                (first | rw [if_pos c_4] | rw [if_neg (by rw [c_4]; decide)] | rw [if_neg c_4] | skip)
                (first | rw [if_pos c_6] | rw [if_neg (by rw [c_6]; decide)] | rw [if_neg c_6] | skip)
                (first | rw [if_pos c_8] | rw [if_neg (by rw [c_8]; decide)] | rw [if_neg c_8] | skip)
                (first | rw [if_pos c_9] | rw [if_neg (by rw [c_9]; decide)] | rw [if_neg c_9] | skip)
                (first | rw [if_pos c_11] | rw [if_neg (by rw [c_11]; decide)] | rw [if_neg c_11] | skip)
                try rw [hAddS, hnc]
                exact hP
              exact g_wz hx hb hr hlocks hAe hP hS dX3_readSaying_97 (by simp only [rSa] <;> (try simp only [hg1, hg3, hg5, hg7, hg10]) <;> (try simp only [c_2, c_4, c_6, c_8, c_9, c_11, decide_true, decide_false, if_true, if_false, reduceIte, Bool.false_eq_true]) <;> (first | done | rfl))
            · skip
              have c_11 := bI_1 c_11
              refine lv_iconst (v := 1) hx hb dX3_readSaying_92 (by decide) ?_
              refine lv_goto (tgt := 97) hx hb dX3_readSaying_93 (by decide) ?_
              have hP : va_P G.1 vwCl (wSc b G.2.1 (rSa s h).1 ++ wHa a G.2.1 (rSa s h).2.1) H := by
                rw [rSa]
                try simp only [hg1, hg3, hg5, hg7, hg10]
                (first | rw [if_pos c_2] | rw [if_neg (by rw [c_2]; decide)] | rw [if_neg c_2] | skip)
                (first | rw [if_pos c_4] | rw [if_neg (by rw [c_4]; decide)] | rw [if_neg c_4] | skip)
                (first | rw [if_pos c_6] | rw [if_neg (by rw [c_6]; decide)] | rw [if_neg c_6] | skip)
                (first | rw [if_pos c_8] | rw [if_neg (by rw [c_8]; decide)] | rw [if_neg c_8] | skip)
                (first | rw [if_pos c_9] | rw [if_neg (by rw [c_9]; decide)] | rw [if_neg c_9] | skip)
                (first | rw [if_pos c_11] | rw [if_neg (by rw [c_11]; decide)] | rw [if_neg c_11] | skip)
                try rw [hAddS, hnc]
                exact hP
              exact g_wz hx hb hr hlocks hAe hP hS dX3_readSaying_97 (by simp only [rSa] <;> (try simp only [hg1, hg3, hg5, hg7, hg10]) <;> (try simp only [c_2, c_4, c_6, c_8, c_9, c_11, decide_true, decide_false, if_true, if_false, reduceIte, Bool.false_eq_true]) <;> (first | done | rfl))
        · skip
          have c_8 := bI_0 c_8
          refine lv_iconst (v := 0) hx hb dX3_readSaying_65 (by decide) ?_
          have hP : va_P G.1 vwCl (wSc b G.2.1 (rSa s h).1 ++ wHa a G.2.1 (rSa s h).2.1) H := by
            rw [rSa]
            try simp only [hg1, hg3, hg5, hg7]
            (first | rw [if_pos c_2] | rw [if_neg (by rw [c_2]; decide)] | rw [if_neg c_2] | skip)
            (first | rw [if_pos c_4] | rw [if_neg (by rw [c_4]; decide)] | rw [if_neg c_4] | skip)
            (first | rw [if_pos c_6] | rw [if_neg (by rw [c_6]; decide)] | rw [if_neg c_6] | skip)
            (first | rw [if_pos c_8] | rw [if_neg (by rw [c_8]; decide)] | rw [if_neg c_8] | skip)
            try rw [hAddS, hnc]
            exact hP
          exact g_wz hx hb hr hlocks hAe hP hS dX3_readSaying_66 (by simp only [rSa] <;> (try simp only [hg1, hg3, hg5, hg7]) <;> (try simp only [c_2, c_4, c_6, c_8, decide_true, decide_false, if_true, if_false, reduceIte, Bool.false_eq_true]) <;> (first | done | rfl))
      · skip
        have c_6 := bI_0 c_6
        refine lv_iconst (v := 0) hx hb dX3_readSaying_47 (by decide) ?_
        have hP : va_P G.1 vwCl (wSc b G.2.1 (rSa s h).1 ++ wHa a G.2.1 (rSa s h).2.1) H := by
          rw [rSa]
          try simp only [hg1, hg3, hg5]
          (first | rw [if_pos c_2] | rw [if_neg (by rw [c_2]; decide)] | rw [if_neg c_2] | skip)
          (first | rw [if_pos c_4] | rw [if_neg (by rw [c_4]; decide)] | rw [if_neg c_4] | skip)
          (first | rw [if_pos c_6] | rw [if_neg (by rw [c_6]; decide)] | rw [if_neg c_6] | skip)
          try rw [hAddS, hnc]
          exact hP
        exact g_wz hx hb hr hlocks hAe hP hS dX3_readSaying_48 (by simp only [rSa] <;> (try simp only [hg1, hg3, hg5]) <;> (try simp only [c_2, c_4, c_6, decide_true, decide_false, if_true, if_false, reduceIte, Bool.false_eq_true]) <;> (first | done | rfl))
    · skip
      have c_4 := bI_0 c_4
      refine lv_iconst (v := 0) hx hb dX3_readSaying_31 (by decide) ?_
      have hP : va_P G.1 vwCl (wSc b G.2.1 (rSa s h).1 ++ wHa a G.2.1 (rSa s h).2.1) H := by
        rw [rSa]
        try simp only [hg1, hg3]
        (first | rw [if_pos c_2] | rw [if_neg (by rw [c_2]; decide)] | rw [if_neg c_2] | skip)
        (first | rw [if_pos c_4] | rw [if_neg (by rw [c_4]; decide)] | rw [if_neg c_4] | skip)
        try rw [hAddS, hnc]
        exact hP
      exact g_wz hx hb hr hlocks hAe hP hS dX3_readSaying_32 (by simp only [rSa] <;> (try simp only [hg1, hg3]) <;> (try simp only [c_2, c_4, decide_true, decide_false, if_true, if_false, reduceIte, Bool.false_eq_true]) <;> (first | done | rfl))
  · skip
    have c_2 := bI_0 c_2
    refine lv_iconst (v := 0) hx hb dX3_readSaying_14 (by decide) ?_
    have hP : va_P G.1 vwCl (wSc b G.2.1 (rSa s h).1 ++ wHa a G.2.1 (rSa s h).2.1) H := by
      rw [rSa]
      try simp only [hg1]
      (first | rw [if_pos c_2] | rw [if_neg (by rw [c_2]; decide)] | rw [if_neg c_2] | skip)
      try rw [hAddS, hnc]
      exact hP
    exact g_wz hx hb hr hlocks hAe hP hS dX3_readSaying_15 (by simp only [rSa] <;> (try simp only [hg1]) <;> (try simp only [c_2, decide_true, decide_false, if_true, if_false, reduceIte, Bool.false_eq_true]) <;> (first | done | rfl))
