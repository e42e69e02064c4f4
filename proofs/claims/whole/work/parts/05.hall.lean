theorem hLis_lis (h : HaS) (n : Nat) (k z : Int32) : hLis (hLis h n k) n z = hLis h n z := by
  have e1 : ∀ (f f2 g : Nat → Int32), lsF f (lsF f2 g n) n = lsF f g n := by
    intro f f2 g
    funext j
    simp only [lsF]
    by_cases hj : j < n
    · rw [if_pos hj, if_pos hj]
    · rw [if_neg hj, if_neg hj, if_neg hj]
  show (h.pl, h.loss, h.nich, h.mo, lsF (fun s => hPlace h s z) (lsF (fun s => hPlace h s k) h.ats n) n, lsF (fun s => hStr h s z) (lsF (fun s => hStr h s k) h.str n) n) = _
  rw [e1, e1]
  rfl
def hQuiS (h : HaS) (n : Nat) (p : Int32) : HaS := hLis h n (nI ((firstF (fun k => decide (hSndB (hLis h n (nI k)) n p = 0)) 100 0).getD 99))
def hWaitS (h : HaS) (n : Nat) (q un ow : Int32) : HaS := hLis h n (nI ((firstF (fun k => decide (hStrAt (hLis h n (nI k + un)) n q < ow)) 100 0).getD 99) + un)
theorem i_X0_soundingAt_X0 : ∀ w ∈ wsX00, w ∈ wsX0_soundingAt := by decide +kernel
theorem i_X0_soundingAt_X2 : ∀ w ∈ wsX20, w ∈ wsX0_soundingAt := by decide +kernel
theorem h_X0_soundingAt : yX0_soundingAt.cls = RX0 ∧ yX0_soundingAt.cls ≠ "java/lang/invoke/MethodHandle" ∧ yX0_soundingAt.cls ≠ "java/lang/invoke/VarHandle" ∧ (parseMethodDescriptor yX0_soundingAt.desc).map (fun d => d.parameters.length) = some 1 := by decide +kernel
set_option maxHeartbeats 4000000 in
set_option maxRecDepth 100000 in
theorem c_X0_soundingAt (lz : Launch) (G : gG) (a : Nat → Nat) (h : HaS) (n : Nat) (p : Int32) (hn : h.mo.sayings = nI n) (hn8 : n ≤ 8) : gRd lz yX0_soundingAt wsX0_soundingAt 0 G [.ref (a 0), .int p] (wHa a G.2.1 h) (hSndB h n p) := by
  refine g_rd (by decide) rfl (Nat.le_of_ble_eq_true rfl) ?_
  intro pz ez sz mz bz tz cz hx hb hr hml hown hts hlocks hP hK ls hl
  have hl : lv_has ls 4 [(0, .ref (a 0)), (1, .int p)] := hl
  have f21 := hts (.fieldLink RX0 21 "WhisperRing$Hall" "now" "LWhisperRing$Moment;") (by decide +kernel)
  have f25 := hts (.fieldLink RX0 25 "WhisperRing$Hall" "at" "[I") (by decide +kernel)
  have f29 := hts (.fieldLink RX0 29 "WhisperRing$Hall" "strength" "[I") (by decide +kernel)
  have f42 := hts (.fieldLink RX0 42 "WhisperRing$Moment" "sayings" "I") (by decide +kernel)
  refine lv_iconst (v := 0) hx hb dX0_soundingAt_0 (by decide) ?_
  refine lv_istore_n (lv' := [(2, .int 0), (0, .ref (a 0)), (1, .int p)]) hx hb dX0_soundingAt_1 rfl hl (by decide) rfl (fun ls hl => ?_)
  refine lv_iconst (v := 0) hx hb dX0_soundingAt_2 (by decide) ?_
  refine lv_istore_n (lv' := [(3, .int 0), (2, .int 0), (0, .ref (a 0)), (1, .int p)]) hx hb dX0_soundingAt_3 rfl hl (by decide) rfl (fun ls hl => ?_)
  have lp_4 : ∀ (fu_4 : Nat) (i : Nat) (x : Int32), (i ≤ n) → (x = bitsOf (fun s => decide (h.ats s = p) && decide (0 < h.str s)) i) → n - i < fu_4 → ∀ ls : Array Slot, lv_has ls 4 [(0, .ref (a 0)), (1, .int p), (2, .int x), (3, .int (nI i))] → W pz lz ez (gRm 0) sz mz ([.ref (a 0), .int p] : List Value).toArray bz tz cz sz.heap [] 0 0 (MQ bz (vp_Si (fun x => x = hSndB h n p)) ([.ref (a 0), .int p] : List Value).toArray sz 0 0 (fun _ => False)) (F0 mz 4 ls []) := by
    intro fu_4
    induction fu_4 with
    | zero =>
      intro i x hi hac hf_4
      exact absurd hf_4 (Nat.not_lt_zero _)
    | succ fu_4 ih_4 =>
      intro i x hi hac hf_4 ls hl
      refine lv_iload_n hx hb dX0_soundingAt_4 rfl (lv_at hl 3 rfl) ?_
      refine lv_aload_n hx hb dX0_soundingAt_5 rfl (lv_at hl 0 rfl) ?_
      refine va_get (D := G.1) (ci := 0) (v := .ref (a 1)) (C := RX0) (T := TX0) (N := 6) hx hb hts i_X0_soundingAt_X0 hown hK.1 hP 0 rfl rfl 3 (by decide) f21 (fun _ h9 => h9) rfl dX0_soundingAt_6 ?_
      refine va_get (D := G.1) (ci := 2) (v := .int h.mo.sayings) (C := RX2) (T := TX2) (N := 10) hx hb hts i_X0_soundingAt_X2 hown hK.1 hP 1 rfl rfl 1 (by decide) f42 (fun _ h9 => h9) rfl dX0_soundingAt_9 ?_
      refine lv_icmp_ge (tgt := 46) hx hb dX0_soundingAt_12 (by decide) (fun c_1 => ?_) (fun c_1 => ?_)
      · skip
        have c_1 := gl_le c_1
        have hx2 : n ≤ i := gl_ex hn (by omega) (by omega) c_1
        refine lv_iload_n hx hb dX0_soundingAt_46 rfl (lv_at hl 2 rfl) ?_
        exact g_ri hx hb hr hlocks dX0_soundingAt_47 (by rw [hac, show i = n by omega]; rfl)
      · skip
        have c_1 := gl_nle c_1
        have hlt : i < n := gl_in hn (by omega) (by omega) c_1
        refine lv_aload_n hx hb dX0_soundingAt_15 rfl (lv_at hl 0 rfl) ?_
        refine va_get (D := G.1) (ci := 0) (v := .ref (a 8)) (C := RX0) (T := TX0) (N := 6) hx hb hts i_X0_soundingAt_X0 hown hK.1 hP 0 rfl rfl 4 (by decide) f25 (fun _ h9 => h9) rfl dX0_soundingAt_16 ?_
        refine lv_iload_n hx hb dX0_soundingAt_19 rfl (lv_at hl 3 rfl) ?_
        refine g_iald hx hb hK.1 hP 8 0 rfl rfl (i := i) (by omega) (by decide) dX0_soundingAt_20 ?_
        refine lv_iload_n hx hb dX0_soundingAt_21 rfl (lv_at hl 1 rfl) ?_
        refine lv_icmp_ne (tgt := 40) hx hb dX0_soundingAt_22 (by decide) (fun c_2 => ?_) (fun c_2 => ?_)
        · skip
          refine lv_iinc (v := nI (i + 1)) (lv' := [(3, .int (nI (i + 1))), (0, .ref (a 0)), (1, .int p), (2, .int x)]) hx hb dX0_soundingAt_40 hl (k := 3) rfl (nI_1 i) (by decide) rfl (fun ls hl => ?_)
          refine lv_goto (tgt := 4) hx hb dX0_soundingAt_43 (by decide) ?_
          exact ih_4 (i + 1) x hlt (bO_n hac (by simp [c_2])) (by omega) ls (lv_sub hl [1, 2, 3, 0] rfl)
        · skip
          refine lv_aload_n hx hb dX0_soundingAt_25 rfl (lv_at hl 0 rfl) ?_
          refine va_get (D := G.1) (ci := 0) (v := .ref (a 9)) (C := RX0) (T := TX0) (N := 6) hx hb hts i_X0_soundingAt_X0 hown hK.1 hP 0 rfl rfl 5 (by decide) f29 (fun _ h9 => h9) rfl dX0_soundingAt_26 ?_
          refine lv_iload_n hx hb dX0_soundingAt_29 rfl (lv_at hl 3 rfl) ?_
          refine g_iald hx hb hK.1 hP 9 0 rfl rfl (i := i) (by omega) (by decide) dX0_soundingAt_30 ?_
          refine lv_if_le (tgt := 40) hx hb dX0_soundingAt_31 (by decide) (fun c_3 => ?_) (fun c_3 => ?_)
          · skip
            have c_3 := gl_le c_3
            refine lv_iinc (v := nI (i + 1)) (lv' := [(3, .int (nI (i + 1))), (0, .ref (a 0)), (1, .int p), (2, .int x)]) hx hb dX0_soundingAt_40 hl (k := 3) rfl (nI_1 i) (by decide) rfl (fun ls hl => ?_)
            refine lv_goto (tgt := 4) hx hb dX0_soundingAt_43 (by decide) ?_
            exact ih_4 (i + 1) x hlt (bO_n hac (by simp [c_2, c_3])) (by omega) ls (lv_sub hl [1, 2, 3, 0] rfl)
          · skip
            have c_3 := gl_nle c_3
            refine lv_iload_n hx hb dX0_soundingAt_34 rfl (lv_at hl 2 rfl) ?_
            refine lv_iconst (v := 1) hx hb dX0_soundingAt_35 (by decide) ?_
            refine lv_iload_n hx hb dX0_soundingAt_36 rfl (lv_at hl 3 rfl) ?_
            refine lv_ishl hx hb dX0_soundingAt_37 ?_
            refine lv_ior hx hb dX0_soundingAt_38 ?_
            refine lv_istore_n (lv' := [(2, .int (x ||| (1 <<< ((nI i) &&& 31)))), (0, .ref (a 0)), (1, .int p), (3, .int (nI i))]) hx hb dX0_soundingAt_39 rfl hl (by decide) rfl (fun ls hl => ?_)
            refine lv_iinc (v := nI (i + 1)) (lv' := [(3, .int (nI (i + 1))), (2, .int (x ||| (1 <<< ((nI i) &&& 31)))), (0, .ref (a 0)), (1, .int p)]) hx hb dX0_soundingAt_40 hl (k := 3) rfl (nI_1 i) (by decide) rfl (fun ls hl => ?_)
            refine lv_goto (tgt := 4) hx hb dX0_soundingAt_43 (by decide) ?_
            exact ih_4 (i + 1) (x ||| (1 <<< ((nI i) &&& 31))) hlt (bO_y hac (by simp [c_2, c_3])) (by omega) ls (lv_sub hl [2, 3, 1, 0] rfl)
  exact lp_4 ((n - 0) + 1) 0 0 (Nat.zero_le _) rfl (Nat.lt_succ_self _) ls (lv_sub hl [2, 3, 1, 0] rfl)

theorem i_X0_strengthAt_X0 : ∀ w ∈ wsX00, w ∈ wsX0_strengthAt := by decide +kernel
theorem i_X0_strengthAt_X2 : ∀ w ∈ wsX20, w ∈ wsX0_strengthAt := by decide +kernel
theorem h_X0_strengthAt : yX0_strengthAt.cls = RX0 ∧ yX0_strengthAt.cls ≠ "java/lang/invoke/MethodHandle" ∧ yX0_strengthAt.cls ≠ "java/lang/invoke/VarHandle" ∧ (parseMethodDescriptor yX0_strengthAt.desc).map (fun d => d.parameters.length) = some 1 := by decide +kernel
set_option maxHeartbeats 4000000 in
set_option maxRecDepth 100000 in
theorem c_X0_strengthAt (lz : Launch) (G : gG) (a : Nat → Nat) (h : HaS) (n : Nat) (p : Int32) (hn : h.mo.sayings = nI n) (hn8 : n ≤ 8) : gRd lz yX0_strengthAt wsX0_strengthAt 0 G [.ref (a 0), .int p] (wHa a G.2.1 h) (hStrAt h n p) := by
  refine g_rd (by decide) rfl (Nat.le_of_ble_eq_true rfl) ?_
  intro pz ez sz mz bz tz cz hx hb hr hml hown hts hlocks hP hK ls hl
  have hl : lv_has ls 4 [(0, .ref (a 0)), (1, .int p)] := hl
  have f21 := hts (.fieldLink RX0 21 "WhisperRing$Hall" "now" "LWhisperRing$Moment;") (by decide +kernel)
  have f25 := hts (.fieldLink RX0 25 "WhisperRing$Hall" "at" "[I") (by decide +kernel)
  have f29 := hts (.fieldLink RX0 29 "WhisperRing$Hall" "strength" "[I") (by decide +kernel)
  have f42 := hts (.fieldLink RX0 42 "WhisperRing$Moment" "sayings" "I") (by decide +kernel)
  refine lv_iconst (v := 0) hx hb dX0_strengthAt_0 (by decide) ?_
  refine lv_istore_n (lv' := [(2, .int 0), (0, .ref (a 0)), (1, .int p)]) hx hb dX0_strengthAt_1 rfl hl (by decide) rfl (fun ls hl => ?_)
  refine lv_iconst (v := 0) hx hb dX0_strengthAt_2 (by decide) ?_
  refine lv_istore_n (lv' := [(3, .int 0), (2, .int 0), (0, .ref (a 0)), (1, .int p)]) hx hb dX0_strengthAt_3 rfl hl (by decide) rfl (fun ls hl => ?_)
  have lp_4 : ∀ (fu_4 : Nat) (i : Nat) (x : Int32), (i ≤ n) → (x = sumOf (fun s => decide (h.ats s = p)) h.str i) → n - i < fu_4 → ∀ ls : Array Slot, lv_has ls 4 [(0, .ref (a 0)), (1, .int p), (2, .int x), (3, .int (nI i))] → W pz lz ez (gRm 0) sz mz ([.ref (a 0), .int p] : List Value).toArray bz tz cz sz.heap [] 0 0 (MQ bz (vp_Si (fun x => x = hStrAt h n p)) ([.ref (a 0), .int p] : List Value).toArray sz 0 0 (fun _ => False)) (F0 mz 4 ls []) := by
    intro fu_4
    induction fu_4 with
    | zero =>
      intro i x hi hac hf_4
      exact absurd hf_4 (Nat.not_lt_zero _)
    | succ fu_4 ih_4 =>
      intro i x hi hac hf_4 ls hl
      refine lv_iload_n hx hb dX0_strengthAt_4 rfl (lv_at hl 3 rfl) ?_
      refine lv_aload_n hx hb dX0_strengthAt_5 rfl (lv_at hl 0 rfl) ?_
      refine va_get (D := G.1) (ci := 0) (v := .ref (a 1)) (C := RX0) (T := TX0) (N := 6) hx hb hts i_X0_strengthAt_X0 hown hK.1 hP 0 rfl rfl 3 (by decide) f21 (fun _ h9 => h9) rfl dX0_strengthAt_6 ?_
      refine va_get (D := G.1) (ci := 2) (v := .int h.mo.sayings) (C := RX2) (T := TX2) (N := 10) hx hb hts i_X0_strengthAt_X2 hown hK.1 hP 1 rfl rfl 1 (by decide) f42 (fun _ h9 => h9) rfl dX0_strengthAt_9 ?_
      refine lv_icmp_ge (tgt := 40) hx hb dX0_strengthAt_12 (by decide) (fun c_1 => ?_) (fun c_1 => ?_)
      · skip
        have c_1 := gl_le c_1
        have hx2 : n ≤ i := gl_ex hn (by omega) (by omega) c_1
        refine lv_iload_n hx hb dX0_strengthAt_40 rfl (lv_at hl 2 rfl) ?_
        exact g_ri hx hb hr hlocks dX0_strengthAt_41 (by rw [hac, show i = n by omega]; rfl)
      · skip
        have c_1 := gl_nle c_1
        have hlt : i < n := gl_in hn (by omega) (by omega) c_1
        refine lv_aload_n hx hb dX0_strengthAt_15 rfl (lv_at hl 0 rfl) ?_
        refine va_get (D := G.1) (ci := 0) (v := .ref (a 8)) (C := RX0) (T := TX0) (N := 6) hx hb hts i_X0_strengthAt_X0 hown hK.1 hP 0 rfl rfl 4 (by decide) f25 (fun _ h9 => h9) rfl dX0_strengthAt_16 ?_
        refine lv_iload_n hx hb dX0_strengthAt_19 rfl (lv_at hl 3 rfl) ?_
        refine g_iald hx hb hK.1 hP 8 0 rfl rfl (i := i) (by omega) (by decide) dX0_strengthAt_20 ?_
        refine lv_iload_n hx hb dX0_strengthAt_21 rfl (lv_at hl 1 rfl) ?_
        refine lv_icmp_ne (tgt := 34) hx hb dX0_strengthAt_22 (by decide) (fun c_2 => ?_) (fun c_2 => ?_)
        · skip
          refine lv_iinc (v := nI (i + 1)) (lv' := [(3, .int (nI (i + 1))), (0, .ref (a 0)), (1, .int p), (2, .int x)]) hx hb dX0_strengthAt_34 hl (k := 3) rfl (nI_1 i) (by decide) rfl (fun ls hl => ?_)
          refine lv_goto (tgt := 4) hx hb dX0_strengthAt_37 (by decide) ?_
          exact ih_4 (i + 1) x hlt (sO_n hac (by simp [c_2])) (by omega) ls (lv_sub hl [1, 2, 3, 0] rfl)
        · skip
          refine lv_iload_n hx hb dX0_strengthAt_25 rfl (lv_at hl 2 rfl) ?_
          refine lv_aload_n hx hb dX0_strengthAt_26 rfl (lv_at hl 0 rfl) ?_
          refine va_get (D := G.1) (ci := 0) (v := .ref (a 9)) (C := RX0) (T := TX0) (N := 6) hx hb hts i_X0_strengthAt_X0 hown hK.1 hP 0 rfl rfl 5 (by decide) f29 (fun _ h9 => h9) rfl dX0_strengthAt_27 ?_
          refine lv_iload_n hx hb dX0_strengthAt_30 rfl (lv_at hl 3 rfl) ?_
          refine g_iald hx hb hK.1 hP 9 0 rfl rfl (i := i) (by omega) (by decide) dX0_strengthAt_31 ?_
          refine lv_iadd hx hb dX0_strengthAt_32 ?_
          refine lv_istore_n (lv' := [(2, .int (x + (h.str i))), (0, .ref (a 0)), (1, .int p), (3, .int (nI i))]) hx hb dX0_strengthAt_33 rfl hl (by decide) rfl (fun ls hl => ?_)
          refine lv_iinc (v := nI (i + 1)) (lv' := [(3, .int (nI (i + 1))), (2, .int (x + (h.str i))), (0, .ref (a 0)), (1, .int p)]) hx hb dX0_strengthAt_34 hl (k := 3) rfl (nI_1 i) (by decide) rfl (fun ls hl => ?_)
          refine lv_goto (tgt := 4) hx hb dX0_strengthAt_37 (by decide) ?_
          exact ih_4 (i + 1) (x + (h.str i)) hlt (sO_y hac (by simp [c_2])) (by omega) ls (lv_sub hl [2, 3, 1, 0] rfl)
  exact lp_4 ((n - 0) + 1) 0 0 (Nat.zero_le _) rfl (Nat.lt_succ_self _) ls (lv_sub hl [2, 3, 1, 0] rfl)

theorem i_X0_clearAt_X0 : ∀ w ∈ wsX00, w ∈ wsX0_clearAt := by decide +kernel
theorem i_X0_clearAt_X2 : ∀ w ∈ wsX20, w ∈ wsX0_clearAt := by decide +kernel
theorem h_X0_clearAt : yX0_clearAt.cls = RX0 ∧ yX0_clearAt.cls ≠ "java/lang/invoke/MethodHandle" ∧ yX0_clearAt.cls ≠ "java/lang/invoke/VarHandle" ∧ (parseMethodDescriptor yX0_clearAt.desc).map (fun d => d.parameters.length) = some 1 := by decide +kernel
set_option maxHeartbeats 4000000 in
set_option maxRecDepth 100000 in
theorem c_X0_clearAt (lz : Launch) (G : gG) (a : Nat → Nat) (h : HaS) (n : Nat) (p : Int32) (hn : h.mo.sayings = nI n) (hn8 : n ≤ 8) : gRd lz yX0_clearAt wsX0_clearAt 1 G [.ref (a 0), .int p] (wHa a G.2.1 h) (hClear h n p) := by
  refine g_rd (by decide) rfl (Nat.le_of_ble_eq_true rfl) ?_
  intro pz ez sz mz bz tz cz hx hb hr hml hown hts hlocks hP hK ls hl
  have hl : lv_has ls 4 [(0, .ref (a 0)), (1, .int p)] := hl
  have f21 := hts (.fieldLink RX0 21 "WhisperRing$Hall" "now" "LWhisperRing$Moment;") (by decide +kernel)
  have f25 := hts (.fieldLink RX0 25 "WhisperRing$Hall" "at" "[I") (by decide +kernel)
  have f29 := hts (.fieldLink RX0 29 "WhisperRing$Hall" "strength" "[I") (by decide +kernel)
  have f42 := hts (.fieldLink RX0 42 "WhisperRing$Moment" "sayings" "I") (by decide +kernel)
  refine lv_aload_n hx hb dX0_clearAt_0 rfl (lv_at hl 0 rfl) ?_
  refine lv_iload_n hx hb dX0_clearAt_1 rfl (lv_at hl 1 rfl) ?_
  refine g_rdV (As := [.int p]) (rest := []) (nL := 4) hx hb hml hown hts (c_X0_strengthAt lz G a h n p hn hn8) gX0_clearAt_X0_strengthAt rfl h_X0_strengthAt ⟨Nat.le_of_ble_eq_true rfl, Nat.le_of_ble_eq_true rfl⟩ hK hP (ci := 0) rfl rfl rfl rfl hl.1 rfl (Nat.le_of_ble_eq_true rfl) ⟨Nat.le_refl _, Nat.le_refl _⟩ dX0_clearAt_2 ?_
  refine lv_istore_n (lv' := [(2, .int (hStrAt h n p)), (0, .ref (a 0)), (1, .int p)]) hx hb dX0_clearAt_5 rfl hl (by decide) rfl (fun ls hl => ?_)
  refine lv_iconst (v := 0) hx hb dX0_clearAt_6 (by decide) ?_
  refine lv_istore_n (lv' := [(3, .int 0), (2, .int (hStrAt h n p)), (0, .ref (a 0)), (1, .int p)]) hx hb dX0_clearAt_7 rfl hl (by decide) rfl (fun ls hl => ?_)
  have lp_8 : ∀ (fu_8 : Nat) (i : Nat), (i ≤ n) → (firstF (fun s => decide (h.ats s = p) && decide (hStrAt h n p < 2 * h.str s)) n 0 = firstF (fun s => decide (h.ats s = p) && decide (hStrAt h n p < 2 * h.str s)) (n - i) i) → n - i < fu_8 → ∀ ls : Array Slot, lv_has ls 4 [(0, .ref (a 0)), (1, .int p), (2, .int (hStrAt h n p)), (3, .int (nI i))] → W pz lz ez (gRm 1) sz mz ([.ref (a 0), .int p] : List Value).toArray bz tz cz sz.heap [] 0 0 (MQ bz (vp_Si (fun x => x = hClear h n p)) ([.ref (a 0), .int p] : List Value).toArray sz 0 0 (fun _ => False)) (F0 mz 8 ls []) := by
    intro fu_8
    induction fu_8 with
    | zero =>
      intro i hi he hf_8
      exact absurd hf_8 (Nat.not_lt_zero _)
    | succ fu_8 ih_8 =>
      intro i hi he hf_8 ls hl
      refine lv_iload_n hx hb dX0_clearAt_8 rfl (lv_at hl 3 rfl) ?_
      refine lv_aload_n hx hb dX0_clearAt_9 rfl (lv_at hl 0 rfl) ?_
      refine va_get (D := G.1) (ci := 0) (v := .ref (a 1)) (C := RX0) (T := TX0) (N := 6) hx hb hts i_X0_clearAt_X0 hown hK.1 hP 0 rfl rfl 3 (by decide) f21 (fun _ h9 => h9) rfl dX0_clearAt_10 ?_
      refine va_get (D := G.1) (ci := 2) (v := .int h.mo.sayings) (C := RX2) (T := TX2) (N := 10) hx hb hts i_X0_clearAt_X2 hown hK.1 hP 1 rfl rfl 1 (by decide) f42 (fun _ h9 => h9) rfl dX0_clearAt_13 ?_
      refine lv_icmp_ge (tgt := 49) hx hb dX0_clearAt_16 (by decide) (fun c_1 => ?_) (fun c_1 => ?_)
      · skip
        have c_1 := gl_le c_1
        have hx2 : n ≤ i := gl_ex hn (by omega) (by omega) c_1
        refine lv_bipush (v := (-9)) hx hb dX0_clearAt_49 (by decide) ?_
        exact g_ri hx hb hr hlocks dX0_clearAt_51 (oI_n (fF_e he hx2))
      · skip
        have c_1 := gl_nle c_1
        have hlt : i < n := gl_in hn (by omega) (by omega) c_1
        refine lv_aload_n hx hb dX0_clearAt_19 rfl (lv_at hl 0 rfl) ?_
        refine va_get (D := G.1) (ci := 0) (v := .ref (a 8)) (C := RX0) (T := TX0) (N := 6) hx hb hts i_X0_clearAt_X0 hown hK.1 hP 0 rfl rfl 4 (by decide) f25 (fun _ h9 => h9) rfl dX0_clearAt_20 ?_
        refine lv_iload_n hx hb dX0_clearAt_23 rfl (lv_at hl 3 rfl) ?_
        refine g_iald hx hb hK.1 hP 8 0 rfl rfl (i := i) (by omega) (by decide) dX0_clearAt_24 ?_
        refine lv_iload_n hx hb dX0_clearAt_25 rfl (lv_at hl 1 rfl) ?_
        refine lv_icmp_ne (tgt := 43) hx hb dX0_clearAt_26 (by decide) (fun c_2 => ?_) (fun c_2 => ?_)
        · skip
          refine lv_iinc (v := nI (i + 1)) (lv' := [(3, .int (nI (i + 1))), (0, .ref (a 0)), (1, .int p), (2, .int (hStrAt h n p))]) hx hb dX0_clearAt_43 hl (k := 3) rfl (nI_1 i) (by decide) rfl (fun ls hl => ?_)
          refine lv_goto (tgt := 8) hx hb dX0_clearAt_46 (by decide) ?_
          exact ih_8 (i + 1) hlt (fF_n he hlt (by simp [c_2])) (by omega) ls (lv_sub hl [1, 2, 3, 0] rfl)
        · skip
          refine lv_iconst (v := 2) hx hb dX0_clearAt_29 (by decide) ?_
          refine lv_aload_n hx hb dX0_clearAt_30 rfl (lv_at hl 0 rfl) ?_
          refine va_get (D := G.1) (ci := 0) (v := .ref (a 9)) (C := RX0) (T := TX0) (N := 6) hx hb hts i_X0_clearAt_X0 hown hK.1 hP 0 rfl rfl 5 (by decide) f29 (fun _ h9 => h9) rfl dX0_clearAt_31 ?_
          refine lv_iload_n hx hb dX0_clearAt_34 rfl (lv_at hl 3 rfl) ?_
          refine g_iald hx hb hK.1 hP 9 0 rfl rfl (i := i) (by omega) (by decide) dX0_clearAt_35 ?_
          refine lv_imul hx hb dX0_clearAt_36 ?_
          refine lv_iload_n hx hb dX0_clearAt_37 rfl (lv_at hl 2 rfl) ?_
          refine lv_icmp_le (tgt := 43) hx hb dX0_clearAt_38 (by decide) (fun c_3 => ?_) (fun c_3 => ?_)
          · skip
            have c_3 := gl_le c_3
            refine lv_iinc (v := nI (i + 1)) (lv' := [(3, .int (nI (i + 1))), (0, .ref (a 0)), (1, .int p), (2, .int (hStrAt h n p))]) hx hb dX0_clearAt_43 hl (k := 3) rfl (nI_1 i) (by decide) rfl (fun ls hl => ?_)
            refine lv_goto (tgt := 8) hx hb dX0_clearAt_46 (by decide) ?_
            exact ih_8 (i + 1) hlt (fF_n he hlt (by simp [c_2, c_3])) (by omega) ls (lv_sub hl [1, 2, 3, 0] rfl)
          · skip
            have c_3 := gl_nle c_3
            refine lv_iload_n hx hb dX0_clearAt_41 rfl (lv_at hl 3 rfl) ?_
            exact g_ri hx hb hr hlocks dX0_clearAt_42 (oI_s (fF_y he hlt (by simp [c_2, c_3])))
  exact lp_8 ((n - 0) + 1) 0 (Nat.zero_le _) rfl (Nat.lt_succ_self _) ls (lv_sub hl [2, 3, 1, 0] rfl)

theorem h_X0_isSea : yX0_isSea.cls = RX0 ∧ yX0_isSea.cls ≠ "java/lang/invoke/MethodHandle" ∧ yX0_isSea.cls ≠ "java/lang/invoke/VarHandle" ∧ (parseMethodDescriptor yX0_isSea.desc).map (fun d => d.parameters.length) = some 1 := by decide +kernel
set_option maxHeartbeats 4000000 in
set_option maxRecDepth 100000 in
theorem c_X0_isSea (lz : Launch) (G : gG) (a : Nat → Nat) (h : HaS) (n : Nat) (p : Int32) (hn : h.mo.sayings = nI n) (hn8 : n ≤ 8) : gRd lz yX0_isSea wsX0_isSea 2 G [.ref (a 0), .int p] (wHa a G.2.1 h) (bI (hSea h n p)) := by
  refine g_rd (by decide) rfl (Nat.le_of_ble_eq_true rfl) ?_
  intro pz ez sz mz bz tz cz hx hb hr hml hown hts hlocks hP hK ls hl
  have hl : lv_has ls 2 [(0, .ref (a 0)), (1, .int p)] := hl
  refine lv_aload_n hx hb dX0_isSea_0 rfl (lv_at hl 0 rfl) ?_
  refine lv_iload_n hx hb dX0_isSea_1 rfl (lv_at hl 1 rfl) ?_
  refine g_rdV (As := [.int p]) (rest := []) (nL := 2) hx hb hml hown hts (c_X0_soundingAt lz G a h n p hn hn8) gX0_isSea_X0_soundingAt rfl h_X0_soundingAt ⟨Nat.le_of_ble_eq_true rfl, Nat.le_of_ble_eq_true rfl⟩ hK hP (ci := 0) rfl rfl rfl rfl hl.1 rfl (Nat.le_of_ble_eq_true rfl) ⟨Nat.le_refl _, Nat.le_refl _⟩ dX0_isSea_2 ?_
  refine lv_if_eq (tgt := 22) hx hb dX0_isSea_5 (by decide) (fun c_1 => ?_) (fun c_1 => ?_)
  · skip
    refine lv_iconst (v := 0) hx hb dX0_isSea_22 (by decide) ?_
    exact g_rz hx hb hr hlocks dX0_isSea_23 (by simp [hSea, bI, c_1])
  · skip
    refine lv_aload_n hx hb dX0_isSea_8 rfl (lv_at hl 0 rfl) ?_
    refine lv_iload_n hx hb dX0_isSea_9 rfl (lv_at hl 1 rfl) ?_
    refine g_rdV (As := [.int p]) (rest := []) (nL := 2) hx hb hml hown hts (c_X0_clearAt lz G a h n p hn hn8) gX0_isSea_X0_clearAt rfl h_X0_clearAt ⟨Nat.le_of_ble_eq_true rfl, Nat.le_of_ble_eq_true rfl⟩ hK hP (ci := 0) rfl rfl rfl rfl hl.1 rfl (Nat.le_of_ble_eq_true rfl) ⟨Nat.le_refl _, Nat.le_refl _⟩ dX0_isSea_10 ?_
    refine lv_bipush (v := (-9)) hx hb dX0_isSea_13 (by decide) ?_
    refine lv_icmp_ne (tgt := 22) hx hb dX0_isSea_15 (by decide) (fun c_2 => ?_) (fun c_2 => ?_)
    · skip
      refine lv_iconst (v := 0) hx hb dX0_isSea_22 (by decide) ?_
      exact g_rz hx hb hr hlocks dX0_isSea_23 (by simp [hSea, bI, c_1, c_2])
    · skip
      refine lv_iconst (v := 1) hx hb dX0_isSea_18 (by decide) ?_
      refine lv_goto (tgt := 23) hx hb dX0_isSea_19 (by decide) ?_
      exact g_rz hx hb hr hlocks dX0_isSea_23 (by simp [hSea, bI, c_1, c_2])

theorem i_X0_lasting_X0 : ∀ w ∈ wsX00, w ∈ wsX0_lasting := by decide +kernel
theorem i_X0_lasting_X2 : ∀ w ∈ wsX20, w ∈ wsX0_lasting := by decide +kernel
theorem h_X0_lasting : yX0_lasting.cls = RX0 ∧ yX0_lasting.cls ≠ "java/lang/invoke/MethodHandle" ∧ yX0_lasting.cls ≠ "java/lang/invoke/VarHandle" ∧ (parseMethodDescriptor yX0_lasting.desc).map (fun d => d.parameters.length) = some 0 := by decide +kernel
set_option maxHeartbeats 4000000 in
set_option maxRecDepth 100000 in
theorem c_X0_lasting (lz : Launch) (G : gG) (a : Nat → Nat) (h : HaS) (n : Nat) (hn : h.mo.sayings = nI n) (hn8 : n ≤ 8) : gRd lz yX0_lasting wsX0_lasting 0 G [.ref (a 0)] (wHa a G.2.1 h) (hLast h n) := by
  refine g_rd (by decide) rfl (Nat.le_of_ble_eq_true rfl) ?_
  intro pz ez sz mz bz tz cz hx hb hr hml hown hts hlocks hP hK ls hl
  have hl : lv_has ls 3 [(0, .ref (a 0))] := hl
  have f21 := hts (.fieldLink RX0 21 "WhisperRing$Hall" "now" "LWhisperRing$Moment;") (by decide +kernel)
  have f29 := hts (.fieldLink RX0 29 "WhisperRing$Hall" "strength" "[I") (by decide +kernel)
  have f42 := hts (.fieldLink RX0 42 "WhisperRing$Moment" "sayings" "I") (by decide +kernel)
  refine lv_iconst (v := 0) hx hb dX0_lasting_0 (by decide) ?_
  refine lv_istore_n (lv' := [(1, .int 0), (0, .ref (a 0))]) hx hb dX0_lasting_1 rfl hl (by decide) rfl (fun ls hl => ?_)
  refine lv_iconst (v := 0) hx hb dX0_lasting_2 (by decide) ?_
  refine lv_istore_n (lv' := [(2, .int 0), (1, .int 0), (0, .ref (a 0))]) hx hb dX0_lasting_3 rfl hl (by decide) rfl (fun ls hl => ?_)
  have lp_4 : ∀ (fu_4 : Nat) (i : Nat) (x : Int32), (i ≤ n) → (x = bitsOf (fun s => decide (0 < h.str s)) i) → n - i < fu_4 → ∀ ls : Array Slot, lv_has ls 3 [(0, .ref (a 0)), (1, .int x), (2, .int (nI i))] → W pz lz ez (gRm 0) sz mz ([.ref (a 0)] : List Value).toArray bz tz cz sz.heap [] 0 0 (MQ bz (vp_Si (fun x => x = hLast h n)) ([.ref (a 0)] : List Value).toArray sz 0 0 (fun _ => False)) (F0 mz 4 ls []) := by
    intro fu_4
    induction fu_4 with
    | zero =>
      intro i x hi hac hf_4
      exact absurd hf_4 (Nat.not_lt_zero _)
    | succ fu_4 ih_4 =>
      intro i x hi hac hf_4 ls hl
      refine lv_iload_n hx hb dX0_lasting_4 rfl (lv_at hl 2 rfl) ?_
      refine lv_aload_n hx hb dX0_lasting_5 rfl (lv_at hl 0 rfl) ?_
      refine va_get (D := G.1) (ci := 0) (v := .ref (a 1)) (C := RX0) (T := TX0) (N := 6) hx hb hts i_X0_lasting_X0 hown hK.1 hP 0 rfl rfl 3 (by decide) f21 (fun _ h9 => h9) rfl dX0_lasting_6 ?_
      refine va_get (D := G.1) (ci := 2) (v := .int h.mo.sayings) (C := RX2) (T := TX2) (N := 10) hx hb hts i_X0_lasting_X2 hown hK.1 hP 1 rfl rfl 1 (by decide) f42 (fun _ h9 => h9) rfl dX0_lasting_9 ?_
      refine lv_icmp_ge (tgt := 36) hx hb dX0_lasting_12 (by decide) (fun c_1 => ?_) (fun c_1 => ?_)
      · skip
        have c_1 := gl_le c_1
        have hx2 : n ≤ i := gl_ex hn (by omega) (by omega) c_1
        refine lv_iload_n hx hb dX0_lasting_36 rfl (lv_at hl 1 rfl) ?_
        exact g_ri hx hb hr hlocks dX0_lasting_37 (by rw [hac, show i = n by omega]; rfl)
      · skip
        have c_1 := gl_nle c_1
        have hlt : i < n := gl_in hn (by omega) (by omega) c_1
        refine lv_aload_n hx hb dX0_lasting_15 rfl (lv_at hl 0 rfl) ?_
        refine va_get (D := G.1) (ci := 0) (v := .ref (a 9)) (C := RX0) (T := TX0) (N := 6) hx hb hts i_X0_lasting_X0 hown hK.1 hP 0 rfl rfl 5 (by decide) f29 (fun _ h9 => h9) rfl dX0_lasting_16 ?_
        refine lv_iload_n hx hb dX0_lasting_19 rfl (lv_at hl 2 rfl) ?_
        refine g_iald hx hb hK.1 hP 9 0 rfl rfl (i := i) (by omega) (by decide) dX0_lasting_20 ?_
        refine lv_if_le (tgt := 30) hx hb dX0_lasting_21 (by decide) (fun c_2 => ?_) (fun c_2 => ?_)
        · skip
          have c_2 := gl_le c_2
          refine lv_iinc (v := nI (i + 1)) (lv' := [(2, .int (nI (i + 1))), (0, .ref (a 0)), (1, .int x)]) hx hb dX0_lasting_30 hl (k := 2) rfl (nI_1 i) (by decide) rfl (fun ls hl => ?_)
          refine lv_goto (tgt := 4) hx hb dX0_lasting_33 (by decide) ?_
          exact ih_4 (i + 1) x hlt (bO_n hac (by simp [c_2])) (by omega) ls (lv_sub hl [1, 2, 0] rfl)
        · skip
          have c_2 := gl_nle c_2
          refine lv_iload_n hx hb dX0_lasting_24 rfl (lv_at hl 1 rfl) ?_
          refine lv_iconst (v := 1) hx hb dX0_lasting_25 (by decide) ?_
          refine lv_iload_n hx hb dX0_lasting_26 rfl (lv_at hl 2 rfl) ?_
          refine lv_ishl hx hb dX0_lasting_27 ?_
          refine lv_ior hx hb dX0_lasting_28 ?_
          refine lv_istore_n (lv' := [(1, .int (x ||| (1 <<< ((nI i) &&& 31)))), (0, .ref (a 0)), (2, .int (nI i))]) hx hb dX0_lasting_29 rfl hl (by decide) rfl (fun ls hl => ?_)
          refine lv_iinc (v := nI (i + 1)) (lv' := [(2, .int (nI (i + 1))), (1, .int (x ||| (1 <<< ((nI i) &&& 31)))), (0, .ref (a 0))]) hx hb dX0_lasting_30 hl (k := 2) rfl (nI_1 i) (by decide) rfl (fun ls hl => ?_)
          refine lv_goto (tgt := 4) hx hb dX0_lasting_33 (by decide) ?_
          exact ih_4 (i + 1) (x ||| (1 <<< ((nI i) &&& 31))) hlt (bO_y hac (by simp [c_2])) (by omega) ls (lv_sub hl [2, 1, 0] rfl)
  exact lp_4 ((n - 0) + 1) 0 0 (Nat.zero_le _) rfl (Nat.lt_succ_self _) ls (lv_sub hl [2, 1, 0] rfl)

theorem i_X0_strengthOf_X0 : ∀ w ∈ wsX00, w ∈ wsX0_strengthOf := by decide +kernel
theorem i_X0_strengthOf_X2 : ∀ w ∈ wsX20, w ∈ wsX0_strengthOf := by decide +kernel
theorem h_X0_strengthOf : yX0_strengthOf.cls = RX0 ∧ yX0_strengthOf.cls ≠ "java/lang/invoke/MethodHandle" ∧ yX0_strengthOf.cls ≠ "java/lang/invoke/VarHandle" ∧ (parseMethodDescriptor yX0_strengthOf.desc).map (fun d => d.parameters.length) = some 1 := by decide +kernel
set_option maxHeartbeats 4000000 in
set_option maxRecDepth 100000 in
theorem c_X0_strengthOf (lz : Launch) (G : gG) (a : Nat → Nat) (h : HaS) (n : Nat) (b : Int32) (hn : h.mo.sayings = nI n) (hn8 : n ≤ 8) : gRd lz yX0_strengthOf wsX0_strengthOf 0 G [.ref (a 0), .int b] (wHa a G.2.1 h) (hStrOf h n b) := by
  refine g_rd (by decide) rfl (Nat.le_of_ble_eq_true rfl) ?_
  intro pz ez sz mz bz tz cz hx hb hr hml hown hts hlocks hP hK ls hl
  have hl : lv_has ls 4 [(0, .ref (a 0)), (1, .int b)] := hl
  have f21 := hts (.fieldLink RX0 21 "WhisperRing$Hall" "now" "LWhisperRing$Moment;") (by decide +kernel)
  have f29 := hts (.fieldLink RX0 29 "WhisperRing$Hall" "strength" "[I") (by decide +kernel)
  have f42 := hts (.fieldLink RX0 42 "WhisperRing$Moment" "sayings" "I") (by decide +kernel)
  refine lv_iconst (v := 0) hx hb dX0_strengthOf_0 (by decide) ?_
  refine lv_istore_n (lv' := [(2, .int 0), (0, .ref (a 0)), (1, .int b)]) hx hb dX0_strengthOf_1 rfl hl (by decide) rfl (fun ls hl => ?_)
  refine lv_iconst (v := 0) hx hb dX0_strengthOf_2 (by decide) ?_
  refine lv_istore_n (lv' := [(3, .int 0), (2, .int 0), (0, .ref (a 0)), (1, .int b)]) hx hb dX0_strengthOf_3 rfl hl (by decide) rfl (fun ls hl => ?_)
  have lp_4 : ∀ (fu_4 : Nat) (i : Nat) (x : Int32), (i ≤ n) → (x = sumOf (fun s => hasB b (nI s)) h.str i) → n - i < fu_4 → ∀ ls : Array Slot, lv_has ls 4 [(0, .ref (a 0)), (1, .int b), (2, .int x), (3, .int (nI i))] → W pz lz ez (gRm 0) sz mz ([.ref (a 0), .int b] : List Value).toArray bz tz cz sz.heap [] 0 0 (MQ bz (vp_Si (fun x => x = hStrOf h n b)) ([.ref (a 0), .int b] : List Value).toArray sz 0 0 (fun _ => False)) (F0 mz 4 ls []) := by
    intro fu_4
    induction fu_4 with
    | zero =>
      intro i x hi hac hf_4
      exact absurd hf_4 (Nat.not_lt_zero _)
    | succ fu_4 ih_4 =>
      intro i x hi hac hf_4 ls hl
      refine lv_iload_n hx hb dX0_strengthOf_4 rfl (lv_at hl 3 rfl) ?_
      refine lv_aload_n hx hb dX0_strengthOf_5 rfl (lv_at hl 0 rfl) ?_
      refine va_get (D := G.1) (ci := 0) (v := .ref (a 1)) (C := RX0) (T := TX0) (N := 6) hx hb hts i_X0_strengthOf_X0 hown hK.1 hP 0 rfl rfl 3 (by decide) f21 (fun _ h9 => h9) rfl dX0_strengthOf_6 ?_
      refine va_get (D := G.1) (ci := 2) (v := .int h.mo.sayings) (C := RX2) (T := TX2) (N := 10) hx hb hts i_X0_strengthOf_X2 hown hK.1 hP 1 rfl rfl 1 (by decide) f42 (fun _ h9 => h9) rfl dX0_strengthOf_9 ?_
      refine lv_icmp_ge (tgt := 39) hx hb dX0_strengthOf_12 (by decide) (fun c_1 => ?_) (fun c_1 => ?_)
      · skip
        have c_1 := gl_le c_1
        have hx2 : n ≤ i := gl_ex hn (by omega) (by omega) c_1
        refine lv_iload_n hx hb dX0_strengthOf_39 rfl (lv_at hl 2 rfl) ?_
        exact g_ri hx hb hr hlocks dX0_strengthOf_40 (by rw [hac, show i = n by omega]; rfl)
      · skip
        have c_1 := gl_nle c_1
        have hlt : i < n := gl_in hn (by omega) (by omega) c_1
        refine lv_iload_n hx hb dX0_strengthOf_15 rfl (lv_at hl 1 rfl) ?_
        refine lv_iload_n hx hb dX0_strengthOf_16 rfl (lv_at hl 3 rfl) ?_
        refine lv_ishr hx hb dX0_strengthOf_17 ?_
        refine lv_iconst (v := 1) hx hb dX0_strengthOf_18 (by decide) ?_
        refine lv_iand hx hb dX0_strengthOf_19 ?_
        refine lv_iconst (v := 1) hx hb dX0_strengthOf_20 (by decide) ?_
        refine lv_icmp_ne (tgt := 33) hx hb dX0_strengthOf_21 (by decide) (fun c_2 => ?_) (fun c_2 => ?_)
        · skip
          refine lv_iinc (v := nI (i + 1)) (lv' := [(3, .int (nI (i + 1))), (0, .ref (a 0)), (1, .int b), (2, .int x)]) hx hb dX0_strengthOf_33 hl (k := 3) rfl (nI_1 i) (by decide) rfl (fun ls hl => ?_)
          refine lv_goto (tgt := 4) hx hb dX0_strengthOf_36 (by decide) ?_
          exact ih_4 (i + 1) x hlt (sO_n hac (by simp [hasB, c_2])) (by omega) ls (lv_sub hl [1, 2, 3, 0] rfl)
        · skip
          refine lv_iload_n hx hb dX0_strengthOf_24 rfl (lv_at hl 2 rfl) ?_
          refine lv_aload_n hx hb dX0_strengthOf_25 rfl (lv_at hl 0 rfl) ?_
          refine va_get (D := G.1) (ci := 0) (v := .ref (a 9)) (C := RX0) (T := TX0) (N := 6) hx hb hts i_X0_strengthOf_X0 hown hK.1 hP 0 rfl rfl 5 (by decide) f29 (fun _ h9 => h9) rfl dX0_strengthOf_26 ?_
          refine lv_iload_n hx hb dX0_strengthOf_29 rfl (lv_at hl 3 rfl) ?_
          refine g_iald hx hb hK.1 hP 9 0 rfl rfl (i := i) (by omega) (by decide) dX0_strengthOf_30 ?_
          refine lv_iadd hx hb dX0_strengthOf_31 ?_
          refine lv_istore_n (lv' := [(2, .int (x + (h.str i))), (0, .ref (a 0)), (1, .int b), (3, .int (nI i))]) hx hb dX0_strengthOf_32 rfl hl (by decide) rfl (fun ls hl => ?_)
          refine lv_iinc (v := nI (i + 1)) (lv' := [(3, .int (nI (i + 1))), (2, .int (x + (h.str i))), (0, .ref (a 0)), (1, .int b)]) hx hb dX0_strengthOf_33 hl (k := 3) rfl (nI_1 i) (by decide) rfl (fun ls hl => ?_)
          refine lv_goto (tgt := 4) hx hb dX0_strengthOf_36 (by decide) ?_
          exact ih_4 (i + 1) (x + (h.str i)) hlt (sO_y hac (by simp [hasB, c_2])) (by omega) ls (lv_sub hl [2, 3, 1, 0] rfl)
  exact lp_4 ((n - 0) + 1) 0 0 (Nat.zero_le _) rfl (Nat.lt_succ_self _) ls (lv_sub hl [2, 3, 1, 0] rfl)

theorem i_X0_placesThatSound_X0 : ∀ w ∈ wsX00, w ∈ wsX0_placesThatSound := by decide +kernel
theorem h_X0_placesThatSound : yX0_placesThatSound.cls = RX0 ∧ yX0_placesThatSound.cls ≠ "java/lang/invoke/MethodHandle" ∧ yX0_placesThatSound.cls ≠ "java/lang/invoke/VarHandle" ∧ (parseMethodDescriptor yX0_placesThatSound.desc).map (fun d => d.parameters.length) = some 0 := by decide +kernel
set_option maxHeartbeats 4000000 in
set_option maxRecDepth 100000 in
theorem c_X0_placesThatSound (lz : Launch) (G : gG) (a : Nat → Nat) (h : HaS) (n : Nat) (hn : h.mo.sayings = nI n) (hn8 : n ≤ 8) (N : Nat) (hN : h.pl = nI N) (hN24 : N ≤ 24) : gRd lz yX0_placesThatSound wsX0_placesThatSound 1 G [.ref (a 0)] (wHa a G.2.1 h) (hNSnd h n N) := by
  refine g_rd (by decide) rfl (Nat.le_of_ble_eq_true rfl) ?_
  intro pz ez sz mz bz tz cz hx hb hr hml hown hts hlocks hP hK ls hl
  have hl : lv_has ls 3 [(0, .ref (a 0))] := hl
  have f9 := hts (.fieldLink RX0 9 "WhisperRing$Hall" "places" "I") (by decide +kernel)
  refine lv_iconst (v := 0) hx hb dX0_placesThatSound_0 (by decide) ?_
  refine lv_istore_n (lv' := [(1, .int 0), (0, .ref (a 0))]) hx hb dX0_placesThatSound_1 rfl hl (by decide) rfl (fun ls hl => ?_)
  refine lv_iconst (v := 0) hx hb dX0_placesThatSound_2 (by decide) ?_
  refine lv_istore_n (lv' := [(2, .int 0), (1, .int 0), (0, .ref (a 0))]) hx hb dX0_placesThatSound_3 rfl hl (by decide) rfl (fun ls hl => ?_)
  have lp_4 : ∀ (fu_4 : Nat) (i : Nat) (x : Nat), (i ≤ N) → (x = cntOf (fun p => !decide (hSndB h n (nI p) = 0)) i) → N - i < fu_4 → ∀ ls : Array Slot, lv_has ls 3 [(0, .ref (a 0)), (1, .int (nI x)), (2, .int (nI i))] → W pz lz ez (gRm 1) sz mz ([.ref (a 0)] : List Value).toArray bz tz cz sz.heap [] 0 0 (MQ bz (vp_Si (fun x => x = hNSnd h n N)) ([.ref (a 0)] : List Value).toArray sz 0 0 (fun _ => False)) (F0 mz 4 ls []) := by
    intro fu_4
    induction fu_4 with
    | zero =>
      intro i x hi hac hf_4
      exact absurd hf_4 (Nat.not_lt_zero _)
    | succ fu_4 ih_4 =>
      intro i x hi hac hf_4 ls hl
      refine lv_iload_n hx hb dX0_placesThatSound_4 rfl (lv_at hl 2 rfl) ?_
      refine lv_aload_n hx hb dX0_placesThatSound_5 rfl (lv_at hl 0 rfl) ?_
      refine va_get (D := G.1) (ci := 0) (v := .int h.pl) (C := RX0) (T := TX0) (N := 6) hx hb hts i_X0_placesThatSound_X0 hown hK.1 hP 0 rfl rfl 0 (by decide) f9 (fun _ h9 => h9) rfl dX0_placesThatSound_6 ?_
      refine lv_icmp_ge (tgt := 29) hx hb dX0_placesThatSound_9 (by decide) (fun c_1 => ?_) (fun c_1 => ?_)
      · skip
        have c_1 := gl_le c_1
        have hx2 : N ≤ i := gl_ex hN (by omega) (by omega) c_1
        refine lv_iload_n hx hb dX0_placesThatSound_29 rfl (lv_at hl 1 rfl) ?_
        exact g_ri hx hb hr hlocks dX0_placesThatSound_30 (by rw [hac, show i = N by omega]; rfl)
      · skip
        have c_1 := gl_nle c_1
        have hlt : i < N := gl_in hN (by omega) (by omega) c_1
        refine lv_aload_n hx hb dX0_placesThatSound_12 rfl (lv_at hl 0 rfl) ?_
        refine lv_iload_n hx hb dX0_placesThatSound_13 rfl (lv_at hl 2 rfl) ?_
        refine g_rdV (As := [.int (nI i)]) (rest := []) (nL := 3) hx hb hml hown hts (c_X0_soundingAt lz G a h n (nI i) hn hn8) gX0_placesThatSound_X0_soundingAt rfl h_X0_soundingAt ⟨Nat.le_of_ble_eq_true rfl, Nat.le_of_ble_eq_true rfl⟩ hK hP (ci := 0) rfl rfl rfl rfl hl.1 rfl (Nat.le_of_ble_eq_true rfl) ⟨Nat.le_refl _, Nat.le_refl _⟩ dX0_placesThatSound_14 ?_
        refine lv_if_eq (tgt := 23) hx hb dX0_placesThatSound_17 (by decide) (fun c_2 => ?_) (fun c_2 => ?_)
        · skip
          refine lv_iinc (v := nI (i + 1)) (lv' := [(2, .int (nI (i + 1))), (0, .ref (a 0)), (1, .int (nI x))]) hx hb dX0_placesThatSound_23 hl (k := 2) rfl (nI_1 i) (by decide) rfl (fun ls hl => ?_)
          refine lv_goto (tgt := 4) hx hb dX0_placesThatSound_26 (by decide) ?_
          exact ih_4 (i + 1) x hlt (cO_n hac (by simp [c_2])) (by omega) ls (lv_sub hl [1, 2, 0] rfl)
        · skip
          refine lv_iinc (v := nI (x + 1)) (lv' := [(1, .int (nI (x + 1))), (0, .ref (a 0)), (2, .int (nI i))]) hx hb dX0_placesThatSound_20 hl (k := 1) rfl (nI_1 x) (by decide) rfl (fun ls hl => ?_)
          refine lv_iinc (v := nI (i + 1)) (lv' := [(2, .int (nI (i + 1))), (1, .int (nI (x + 1))), (0, .ref (a 0))]) hx hb dX0_placesThatSound_23 hl (k := 2) rfl (nI_1 i) (by decide) rfl (fun ls hl => ?_)
          refine lv_goto (tgt := 4) hx hb dX0_placesThatSound_26 (by decide) ?_
          exact ih_4 (i + 1) (x + 1) hlt (cO_y hac (by simp [c_2])) (by omega) ls (lv_sub hl [2, 1, 0] rfl)
  exact lp_4 ((N - 0) + 1) 0 0 (Nat.zero_le _) rfl (Nat.lt_succ_self _) ls (lv_sub hl [2, 1, 0] rfl)

theorem i_X0_seas_X0 : ∀ w ∈ wsX00, w ∈ wsX0_seas := by decide +kernel
theorem h_X0_seas : yX0_seas.cls = RX0 ∧ yX0_seas.cls ≠ "java/lang/invoke/MethodHandle" ∧ yX0_seas.cls ≠ "java/lang/invoke/VarHandle" ∧ (parseMethodDescriptor yX0_seas.desc).map (fun d => d.parameters.length) = some 0 := by decide +kernel
set_option maxHeartbeats 4000000 in
set_option maxRecDepth 100000 in
theorem c_X0_seas (lz : Launch) (G : gG) (a : Nat → Nat) (h : HaS) (n : Nat) (hn : h.mo.sayings = nI n) (hn8 : n ≤ 8) (N : Nat) (hN : h.pl = nI N) (hN24 : N ≤ 24) : gRd lz yX0_seas wsX0_seas 3 G [.ref (a 0)] (wHa a G.2.1 h) (hNSea h n N) := by
  refine g_rd (by decide) rfl (Nat.le_of_ble_eq_true rfl) ?_
  intro pz ez sz mz bz tz cz hx hb hr hml hown hts hlocks hP hK ls hl
  have hl : lv_has ls 3 [(0, .ref (a 0))] := hl
  have f9 := hts (.fieldLink RX0 9 "WhisperRing$Hall" "places" "I") (by decide +kernel)
  refine lv_iconst (v := 0) hx hb dX0_seas_0 (by decide) ?_
  refine lv_istore_n (lv' := [(1, .int 0), (0, .ref (a 0))]) hx hb dX0_seas_1 rfl hl (by decide) rfl (fun ls hl => ?_)
  refine lv_iconst (v := 0) hx hb dX0_seas_2 (by decide) ?_
  refine lv_istore_n (lv' := [(2, .int 0), (1, .int 0), (0, .ref (a 0))]) hx hb dX0_seas_3 rfl hl (by decide) rfl (fun ls hl => ?_)
  have lp_4 : ∀ (fu_4 : Nat) (i : Nat) (x : Nat), (i ≤ N) → (x = cntOf (fun p => hSea h n (nI p)) i) → N - i < fu_4 → ∀ ls : Array Slot, lv_has ls 3 [(0, .ref (a 0)), (1, .int (nI x)), (2, .int (nI i))] → W pz lz ez (gRm 3) sz mz ([.ref (a 0)] : List Value).toArray bz tz cz sz.heap [] 0 0 (MQ bz (vp_Si (fun x => x = hNSea h n N)) ([.ref (a 0)] : List Value).toArray sz 0 0 (fun _ => False)) (F0 mz 4 ls []) := by
    intro fu_4
    induction fu_4 with
    | zero =>
      intro i x hi hac hf_4
      exact absurd hf_4 (Nat.not_lt_zero _)
    | succ fu_4 ih_4 =>
      intro i x hi hac hf_4 ls hl
      refine lv_iload_n hx hb dX0_seas_4 rfl (lv_at hl 2 rfl) ?_
      refine lv_aload_n hx hb dX0_seas_5 rfl (lv_at hl 0 rfl) ?_
      refine va_get (D := G.1) (ci := 0) (v := .int h.pl) (C := RX0) (T := TX0) (N := 6) hx hb hts i_X0_seas_X0 hown hK.1 hP 0 rfl rfl 0 (by decide) f9 (fun _ h9 => h9) rfl dX0_seas_6 ?_
      refine lv_icmp_ge (tgt := 29) hx hb dX0_seas_9 (by decide) (fun c_1 => ?_) (fun c_1 => ?_)
      · skip
        have c_1 := gl_le c_1
        have hx2 : N ≤ i := gl_ex hN (by omega) (by omega) c_1
        refine lv_iload_n hx hb dX0_seas_29 rfl (lv_at hl 1 rfl) ?_
        exact g_ri hx hb hr hlocks dX0_seas_30 (by rw [hac, show i = N by omega]; rfl)
      · skip
        have c_1 := gl_nle c_1
        have hlt : i < N := gl_in hN (by omega) (by omega) c_1
        refine lv_aload_n hx hb dX0_seas_12 rfl (lv_at hl 0 rfl) ?_
        refine lv_iload_n hx hb dX0_seas_13 rfl (lv_at hl 2 rfl) ?_
        refine g_rdV (As := [.int (nI i)]) (rest := []) (nL := 3) hx hb hml hown hts (c_X0_isSea lz G a h n (nI i) hn hn8) gX0_seas_X0_isSea rfl h_X0_isSea ⟨Nat.le_of_ble_eq_true rfl, Nat.le_of_ble_eq_true rfl⟩ hK hP (ci := 0) rfl rfl rfl rfl hl.1 rfl (Nat.le_of_ble_eq_true rfl) ⟨Nat.le_refl _, Nat.le_refl _⟩ dX0_seas_14 ?_
        refine lv_if_eq (tgt := 23) hx hb dX0_seas_17 (by decide) (fun c_2 => ?_) (fun c_2 => ?_)
        · skip
          have c_2 := bI_0 c_2
          refine lv_iinc (v := nI (i + 1)) (lv' := [(2, .int (nI (i + 1))), (0, .ref (a 0)), (1, .int (nI x))]) hx hb dX0_seas_23 hl (k := 2) rfl (nI_1 i) (by decide) rfl (fun ls hl => ?_)
          refine lv_goto (tgt := 4) hx hb dX0_seas_26 (by decide) ?_
          exact ih_4 (i + 1) x hlt (cO_n hac (by simp [c_2])) (by omega) ls (lv_sub hl [1, 2, 0] rfl)
        · skip
          have c_2 := bI_1 c_2
          refine lv_iinc (v := nI (x + 1)) (lv' := [(1, .int (nI (x + 1))), (0, .ref (a 0)), (2, .int (nI i))]) hx hb dX0_seas_20 hl (k := 1) rfl (nI_1 x) (by decide) rfl (fun ls hl => ?_)
          refine lv_iinc (v := nI (i + 1)) (lv' := [(2, .int (nI (i + 1))), (1, .int (nI (x + 1))), (0, .ref (a 0))]) hx hb dX0_seas_23 hl (k := 2) rfl (nI_1 i) (by decide) rfl (fun ls hl => ?_)
          refine lv_goto (tgt := 4) hx hb dX0_seas_26 (by decide) ?_
          exact ih_4 (i + 1) (x + 1) hlt (cO_y hac (by simp [c_2])) (by omega) ls (lv_sub hl [2, 1, 0] rfl)
  exact lp_4 ((N - 0) + 1) 0 0 (Nat.zero_le _) rfl (Nat.lt_succ_self _) ls (lv_sub hl [2, 1, 0] rfl)

theorem i_X0_fewestToHush_X0 : ∀ w ∈ wsX00, w ∈ wsX0_fewestToHush := by decide +kernel
theorem h_X0_fewestToHush : yX0_fewestToHush.cls = RX0 ∧ yX0_fewestToHush.cls ≠ "java/lang/invoke/MethodHandle" ∧ yX0_fewestToHush.cls ≠ "java/lang/invoke/VarHandle" ∧ (parseMethodDescriptor yX0_fewestToHush.desc).map (fun d => d.parameters.length) = some 1 := by decide +kernel
set_option maxHeartbeats 4000000 in
set_option maxRecDepth 100000 in
theorem c_X0_fewestToHush (lz : Launch) (G : gG) (a : Nat → Nat) (h : HaS) (n s O : Nat) (hs : s < 8) (hn : h.mo.sayings = nI n) (hn8 : n ≤ 8) (hO : hOth h n s = nI O) (hO8 : O < 256) : gRd lz yX0_fewestToHush wsX0_fewestToHush 1 G [.ref (a 0), .int (nI s)] (wHa a G.2.1 h) (hFewL h n s (hOth h n s) (O + 1)) := by
  refine g_rd (by decide) rfl (Nat.le_of_ble_eq_true rfl) ?_
  intro pz ez sz mz bz tz cz hx hb hr hml hown hts hlocks hP hK ls hl
  have hl : lv_has ls 6 [(0, .ref (a 0)), (1, .int (nI s))] := hl
  have f25 := hts (.fieldLink RX0 25 "WhisperRing$Hall" "at" "[I") (by decide +kernel)
  have f29 := hts (.fieldLink RX0 29 "WhisperRing$Hall" "strength" "[I") (by decide +kernel)
  refine lv_aload_n hx hb dX0_fewestToHush_0 rfl (lv_at hl 0 rfl) ?_
  refine lv_aload_n hx hb dX0_fewestToHush_1 rfl (lv_at hl 0 rfl) ?_
  refine va_get (D := G.1) (ci := 0) (v := .ref (a 8)) (C := RX0) (T := TX0) (N := 6) hx hb hts i_X0_fewestToHush_X0 hown hK.1 hP 0 rfl rfl 4 (by decide) f25 (fun _ h9 => h9) rfl dX0_fewestToHush_2 ?_
  refine lv_iload_n hx hb dX0_fewestToHush_5 rfl (lv_at hl 1 rfl) ?_
  refine g_iald hx hb hK.1 hP 8 0 rfl rfl (i := s) (by omega) (by decide) dX0_fewestToHush_6 ?_
  refine g_rdV (As := [.int (h.ats s)]) (rest := []) (nL := 6) hx hb hml hown hts (c_X0_soundingAt lz G a h n (h.ats s) hn hn8) gX0_fewestToHush_X0_soundingAt rfl h_X0_soundingAt ⟨Nat.le_of_ble_eq_true rfl, Nat.le_of_ble_eq_true rfl⟩ hK hP (ci := 0) rfl rfl rfl rfl hl.1 rfl (Nat.le_of_ble_eq_true rfl) ⟨Nat.le_refl _, Nat.le_refl _⟩ dX0_fewestToHush_7 ?_
  refine lv_iconst (v := 1) hx hb dX0_fewestToHush_10 (by decide) ?_
  refine lv_iload_n hx hb dX0_fewestToHush_11 rfl (lv_at hl 1 rfl) ?_
  refine lv_ishl hx hb dX0_fewestToHush_12 ?_
  refine lv_iconst (v := (-1)) hx hb dX0_fewestToHush_13 (by decide) ?_
  refine lv_ixor hx hb dX0_fewestToHush_14 ?_
  refine lv_iand hx hb dX0_fewestToHush_15 ?_
  refine g_top (y := hOth h n s) rfl ?_
  refine lv_istore_n (lv' := [(2, .int (hOth h n s)), (0, .ref (a 0)), (1, .int (nI s))]) hx hb dX0_fewestToHush_16 rfl hl (by decide) rfl (fun ls hl => ?_)
  refine lv_iload_n hx hb dX0_fewestToHush_17 rfl (lv_at hl 0 rfl) ?_
  refine lv_istore_n (lv' := [(3, .int (hOth h n s)), (2, .int (hOth h n s)), (0, .ref (a 0)), (1, .int (nI s))]) hx hb dX0_fewestToHush_18 rfl hl (by decide) rfl (fun ls hl => ?_)
  refine lv_iconst (v := 0) hx hb dX0_fewestToHush_19 (by decide) ?_
  refine lv_istore (lv' := [(4, .int 0), (3, .int (hOth h n s)), (2, .int (hOth h n s)), (0, .ref (a 0)), (1, .int (nI s))]) hx hb dX0_fewestToHush_20 hl (by decide) rfl (fun ls hl => ?_)
  have lp_22 : ∀ (fu_22 : Nat) (i : Nat) (x : Int32), (i ≤ O + 1) → (x = hFewL h n s (hOth h n s) i) → O + 1 - i < fu_22 → ∀ ls : Array Slot, lv_has ls 6 [(0, .ref (a 0)), (1, .int (nI s)), (2, .int (hOth h n s)), (3, .int x), (4, .int (nI i))] → W pz lz ez (gRm 1) sz mz ([.ref (a 0), .int (nI s)] : List Value).toArray bz tz cz sz.heap [] 0 0 (MQ bz (vp_Si (fun x => x = hFewL h n s (hOth h n s) (O + 1))) ([.ref (a 0), .int (nI s)] : List Value).toArray sz 0 0 (fun _ => False)) (F0 mz 22 ls []) := by
    intro fu_22
    induction fu_22 with
    | zero =>
      intro i x hi hac hf_22
      exact absurd hf_22 (Nat.not_lt_zero _)
    | succ fu_22 ih_22 =>
      intro i x hi hac hf_22 ls hl
      refine lv_iload hx hb dX0_fewestToHush_22 (lv_at hl 4 rfl) ?_
      refine lv_iload_n hx hb dX0_fewestToHush_24 rfl (lv_at hl 2 rfl) ?_
      refine lv_icmp_gt (tgt := 89) hx hb dX0_fewestToHush_25 (by decide) (fun c_1 => ?_) (fun c_1 => ?_)
      · skip
        have hx2 : O < i := gl_cx hO (by omega) (by omega) c_1
        refine lv_iload_n hx hb dX0_fewestToHush_89 rfl (lv_at hl 3 rfl) ?_
        exact g_ri hx hb hr hlocks dX0_fewestToHush_90 (by rw [hac, show i = O + 1 by omega])
      · skip
        have hlt : i ≤ O := gl_ci hO (by omega) (by omega) c_1
        refine lv_iload hx hb dX0_fewestToHush_28 (lv_at hl 4 rfl) ?_
        refine g_rdS (As := [.int (nI i)]) (rest := []) (nL := 6) hx hb hml hown hts (c_J6_bitCount_0f7a4 lz G (nI i)) gX0_fewestToHush_J6_bitCount_0f7a4 rfl h_J6_bitCount_0f7a4 ⟨Nat.le_of_ble_eq_true rfl, Nat.le_of_ble_eq_true rfl⟩ hK gP_nil rfl hl.1 rfl (Nat.le_of_ble_eq_true rfl) ⟨Nat.le_refl _, Nat.le_refl _⟩ dX0_fewestToHush_30 ?_
        refine lv_iload_n hx hb dX0_fewestToHush_33 rfl (lv_at hl 3 rfl) ?_
        refine g_rdS (As := [.int x]) (rest := [.int (jBc (nI i))]) (nL := 6) hx hb hml hown hts (c_J6_bitCount_0f7a4 lz G x) gX0_fewestToHush_J6_bitCount_0f7a4 rfl h_J6_bitCount_0f7a4 ⟨Nat.le_of_ble_eq_true rfl, Nat.le_of_ble_eq_true rfl⟩ hK gP_nil rfl hl.1 rfl (Nat.le_of_ble_eq_true rfl) ⟨Nat.le_refl _, Nat.le_refl _⟩ dX0_fewestToHush_34 ?_
        refine lv_icmp_ge (tgt := 44) hx hb dX0_fewestToHush_37 (by decide) (fun c_2 => ?_) (fun c_2 => ?_)
        · skip
          have c_2 := gl_le c_2
          refine lv_iconst (v := 0) hx hb dX0_fewestToHush_44 (by decide) ?_
          refine lv_istore (lv' := [(5, .int 0), (0, .ref (a 0)), (1, .int (nI s)), (2, .int (hOth h n s)), (3, .int x), (4, .int (nI i))]) hx hb dX0_fewestToHush_45 hl (by decide) rfl (fun ls hl => ?_)
          refine lv_iload hx hb dX0_fewestToHush_47 (lv_at hl 0 rfl) ?_
          refine lv_if_eq (tgt := 83) hx hb dX0_fewestToHush_49 (by decide) (fun c_3 => ?_) (fun c_3 => False.elim (by revert c_3; decide))
          refine lv_iinc (v := nI (i + 1)) (lv' := [(4, .int (nI (i + 1))), (5, .int 0), (0, .ref (a 0)), (1, .int (nI s)), (2, .int (hOth h n s)), (3, .int x)]) hx hb dX0_fewestToHush_83 hl (k := 5) rfl (nI_1 i) (by decide) rfl (fun ls hl => ?_)
          refine lv_goto (tgt := 22) hx hb dX0_fewestToHush_86 (by decide) ?_
          exact ih_22 (i + 1) x (by omega) (by rw [hFewL, ← hac]; (first | rw [if_pos c_2] | rw [if_neg c_2])) (by omega) ls (lv_sub hl [2, 3, 4, 5, 0] rfl)
        · skip
          have c_2 := gl_nle c_2
          refine lv_iconst (v := 1) hx hb dX0_fewestToHush_40 (by decide) ?_
          refine lv_goto (tgt := 45) hx hb dX0_fewestToHush_41 (by decide) ?_
          refine lv_istore (lv' := [(5, .int 1), (0, .ref (a 0)), (1, .int (nI s)), (2, .int (hOth h n s)), (3, .int x), (4, .int (nI i))]) hx hb dX0_fewestToHush_45 hl (by decide) rfl (fun ls hl => ?_)
          refine lv_iload hx hb dX0_fewestToHush_47 (lv_at hl 0 rfl) ?_
          refine lv_if_eq (tgt := 83) hx hb dX0_fewestToHush_49 (by decide) (fun c_4 => False.elim (by revert c_4; decide)) (fun c_4 => ?_)
          refine lv_iload hx hb dX0_fewestToHush_52 (lv_at hl 5 rfl) ?_
          refine lv_iload_n hx hb dX0_fewestToHush_54 rfl (lv_at hl 3 rfl) ?_
          refine lv_iconst (v := (-1)) hx hb dX0_fewestToHush_55 (by decide) ?_
          refine lv_ixor hx hb dX0_fewestToHush_56 ?_
          refine lv_iand hx hb dX0_fewestToHush_57 ?_
          refine lv_if_ne (tgt := 83) hx hb dX0_fewestToHush_58 (by decide) (fun c_5 => ?_) (fun c_5 => ?_)
          · skip
            refine lv_iinc (v := nI (i + 1)) (lv' := [(4, .int (nI (i + 1))), (5, .int 1), (0, .ref (a 0)), (1, .int (nI s)), (2, .int (hOth h n s)), (3, .int x)]) hx hb dX0_fewestToHush_83 hl (k := 5) rfl (nI_1 i) (by decide) rfl (fun ls hl => ?_)
            refine lv_goto (tgt := 22) hx hb dX0_fewestToHush_86 (by decide) ?_
            exact ih_22 (i + 1) x (by omega) (by rw [hFewL, ← hac]; (first | rw [if_pos c_2] | rw [if_neg c_2]); (first | rw [if_pos c_5] | rw [if_neg c_5])) (by omega) ls (lv_sub hl [2, 3, 4, 5, 0] rfl)
          · skip
            refine lv_aload_n hx hb dX0_fewestToHush_61 rfl (lv_at hl 1 rfl) ?_
            refine va_get (D := G.1) (ci := 0) (v := .ref (a 9)) (C := RX0) (T := TX0) (N := 6) hx hb hts i_X0_fewestToHush_X0 hown hK.1 hP 0 rfl rfl 5 (by decide) f29 (fun _ h9 => h9) rfl dX0_fewestToHush_62 ?_
            refine lv_iload_n hx hb dX0_fewestToHush_65 rfl (lv_at hl 2 rfl) ?_
            refine g_iald hx hb hK.1 hP 9 0 rfl rfl (i := s) (by omega) (by decide) dX0_fewestToHush_66 ?_
            refine lv_aload_n hx hb dX0_fewestToHush_67 rfl (lv_at hl 1 rfl) ?_
            refine lv_iload_n hx hb dX0_fewestToHush_68 rfl (lv_at hl 3 rfl) ?_
            refine lv_iload hx hb dX0_fewestToHush_69 (lv_at hl 5 rfl) ?_
            refine lv_iconst (v := (-1)) hx hb dX0_fewestToHush_71 (by decide) ?_
            refine lv_ixor hx hb dX0_fewestToHush_72 ?_
            refine lv_iand hx hb dX0_fewestToHush_73 ?_
            refine g_rdV (As := [.int ((hOth h n s) &&& ((nI i) ^^^ (-1)))]) (rest := [.int (h.str s)]) (nL := 6) hx hb hml hown hts (c_X0_strengthOf lz G a h n ((hOth h n s) &&& ((nI i) ^^^ (-1))) hn hn8) gX0_fewestToHush_X0_strengthOf rfl h_X0_strengthOf ⟨Nat.le_of_ble_eq_true rfl, Nat.le_of_ble_eq_true rfl⟩ hK hP (ci := 0) rfl rfl rfl rfl hl.1 rfl (Nat.le_of_ble_eq_true rfl) ⟨Nat.le_refl _, Nat.le_refl _⟩ dX0_fewestToHush_74 ?_
            refine lv_icmp_le (tgt := 83) hx hb dX0_fewestToHush_77 (by decide) (fun c_6 => ?_) (fun c_6 => ?_)
            · skip
              have c_6 := gl_le c_6
              refine lv_iinc (v := nI (i + 1)) (lv' := [(4, .int (nI (i + 1))), (5, .int 1), (0, .ref (a 0)), (1, .int (nI s)), (2, .int (hOth h n s)), (3, .int x)]) hx hb dX0_fewestToHush_83 hl (k := 5) rfl (nI_1 i) (by decide) rfl (fun ls hl => ?_)
              refine lv_goto (tgt := 22) hx hb dX0_fewestToHush_86 (by decide) ?_
              exact ih_22 (i + 1) x (by omega) (by rw [hFewL, ← hac]; (first | rw [if_pos c_2] | rw [if_neg c_2]); (first | rw [if_pos c_5] | rw [if_neg c_5]); (first | rw [if_pos c_6] | rw [if_neg c_6])) (by omega) ls (lv_sub hl [2, 3, 4, 5, 0] rfl)
            · skip
              have c_6 := gl_nle c_6
              refine lv_iload hx hb dX0_fewestToHush_80 (lv_at hl 5 rfl) ?_
              refine lv_istore_n (lv' := [(3, .int (nI i)), (5, .int 1), (0, .ref (a 0)), (1, .int (nI s)), (2, .int (hOth h n s)), (4, .int (nI i))]) hx hb dX0_fewestToHush_82 rfl hl (by decide) rfl (fun ls hl => ?_)
              refine lv_iinc (v := nI (i + 1)) (lv' := [(4, .int (nI (i + 1))), (3, .int (nI i)), (5, .int 1), (0, .ref (a 0)), (1, .int (nI s)), (2, .int (hOth h n s))]) hx hb dX0_fewestToHush_83 hl (k := 5) rfl (nI_1 i) (by decide) rfl (fun ls hl => ?_)
              refine lv_goto (tgt := 22) hx hb dX0_fewestToHush_86 (by decide) ?_
              exact ih_22 (i + 1) (nI i) (by omega) (by rw [hFewL, ← hac]; (first | rw [if_pos c_2] | rw [if_neg c_2]); (first | rw [if_pos c_5] | rw [if_neg c_5]); (first | rw [if_pos c_6] | rw [if_neg c_6])) (by omega) ls (lv_sub hl [3, 4, 5, 1, 0] rfl)
  exact lp_22 ((O + 1 - 0) + 1) 0 (hOth h n s) (Nat.zero_le _) rfl (Nat.lt_succ_self _) ls (lv_sub hl [3, 4, 2, 1, 0] rfl)

theorem h_X0_lastOf : yX0_lastOf.cls = RX0 ∧ yX0_lastOf.cls ≠ "java/lang/invoke/MethodHandle" ∧ yX0_lastOf.cls ≠ "java/lang/invoke/VarHandle" ∧ (parseMethodDescriptor yX0_lastOf.desc).map (fun d => d.parameters.length) = some 1 := by decide +kernel
set_option maxHeartbeats 4000000 in
set_option maxRecDepth 100000 in
theorem c_X0_lastOf (lz : Launch) (G : gG) (a : Nat → Nat) (h : HaS) (s : Nat) (hs : s < 8) : gRd lz yX0_lastOf wsX0_lastOf 3 G [.ref (a 0), .int (nI s)] (wHa a G.2.1 h) (hLastOf h s) := by
  refine g_rd (by decide) rfl (Nat.le_of_ble_eq_true rfl) ?_
  intro pz ez sz mz bz tz cz hx hb hr hml hown hts hlocks hP hK ls hl
  have hl : lv_has ls 3 [(0, .ref (a 0)), (1, .int (nI s))] := hl
  refine lv_iconst (v := 0) hx hb dX0_lastOf_0 (by decide) ?_
  refine lv_istore_n (lv' := [(2, .int 0), (0, .ref (a 0)), (1, .int (nI s))]) hx hb dX0_lastOf_1 rfl hl (by decide) rfl (fun ls hl => ?_)
  have lp_2 : ∀ (fu_2 : Nat) (i : Nat), (i ≤ 1000) → (firstF (fun k => decide (hStr h s (nI k) = 0)) 1000 0 = firstF (fun k => decide (hStr h s (nI k) = 0)) (1000 - i) i) → 1000 - i < fu_2 → ∀ ls : Array Slot, lv_has ls 3 [(0, .ref (a 0)), (1, .int (nI s)), (2, .int (nI i))] → W pz lz ez (gRm 3) sz mz ([.ref (a 0), .int (nI s)] : List Value).toArray bz tz cz sz.heap [] 0 0 (MQ bz (vp_Si (fun x => x = hLastOf h s)) ([.ref (a 0), .int (nI s)] : List Value).toArray sz 0 0 (fun _ => False)) (F0 mz 2 ls []) := by
    intro fu_2
    induction fu_2 with
    | zero =>
      intro i hi he hf_2
      exact absurd hf_2 (Nat.not_lt_zero _)
    | succ fu_2 ih_2 =>
      intro i hi he hf_2 ls hl
      refine lv_iload_n hx hb dX0_lastOf_2 rfl (lv_at hl 2 rfl) ?_
      refine lv_sipush (v := 999) hx hb dX0_lastOf_3 (by decide) ?_
      refine lv_icmp_gt (tgt := 26) hx hb dX0_lastOf_6 (by decide) (fun c_1 => ?_) (fun c_1 => ?_)
      · skip
        have hx2 : 1000 ≤ i := gl_cx (k := 999) rfl (by decide) (by omega) c_1
        refine lv_bipush (v := (-9)) hx hb dX0_lastOf_26 (by decide) ?_
        exact g_ri hx hb hr hlocks dX0_lastOf_28 (oI_n (fF_e he hx2))
      · skip
        have hlt : i < 1000 := Nat.lt_succ_of_le (gl_ci (k := 999) rfl (by decide) (by omega) c_1)
        refine lv_aload_n hx hb dX0_lastOf_9 rfl (lv_at hl 0 rfl) ?_
        refine lv_iload_n hx hb dX0_lastOf_10 rfl (lv_at hl 1 rfl) ?_
        refine lv_iload_n hx hb dX0_lastOf_11 rfl (lv_at hl 2 rfl) ?_
        refine g_rdV (As := [.int (nI s), .int (nI i)]) (rest := []) (nL := 3) hx hb hml hown hts (c_X0_strengthAfter lz G a h s (nI i) (by omega)) gX0_lastOf_X0_strengthAfter rfl h_X0_strengthAfter ⟨Nat.le_of_ble_eq_true rfl, Nat.le_of_ble_eq_true rfl⟩ hK hP (ci := 0) rfl rfl rfl rfl hl.1 rfl (Nat.le_of_ble_eq_true rfl) ⟨Nat.le_refl _, Nat.le_refl _⟩ dX0_lastOf_12 ?_
        refine lv_if_ne (tgt := 20) hx hb dX0_lastOf_15 (by decide) (fun c_2 => ?_) (fun c_2 => ?_)
        · skip
          refine lv_iinc (v := nI (i + 1)) (lv' := [(2, .int (nI (i + 1))), (0, .ref (a 0)), (1, .int (nI s))]) hx hb dX0_lastOf_20 hl (k := 2) rfl (nI_1 i) (by decide) rfl (fun ls hl => ?_)
          refine lv_goto (tgt := 2) hx hb dX0_lastOf_23 (by decide) ?_
          exact ih_2 (i + 1) hlt (fF_n he hlt (by simp [c_2])) (by omega) ls (lv_sub hl [1, 2, 0] rfl)
        · skip
          refine lv_iload_n hx hb dX0_lastOf_18 rfl (lv_at hl 2 rfl) ?_
          exact g_ri hx hb hr hlocks dX0_lastOf_19 (oI_s (fF_y he hlt (by simp [c_2])))
  exact lp_2 ((1000 - 0) + 1) 0 (Nat.zero_le _) rfl (Nat.lt_succ_self _) ls (lv_sub hl [1, 2, 0] rfl)

theorem h_X0_whenAt : yX0_whenAt.cls = RX0 ∧ yX0_whenAt.cls ≠ "java/lang/invoke/MethodHandle" ∧ yX0_whenAt.cls ≠ "java/lang/invoke/VarHandle" ∧ (parseMethodDescriptor yX0_whenAt.desc).map (fun d => d.parameters.length) = some 2 := by decide +kernel
set_option maxHeartbeats 4000000 in
set_option maxRecDepth 100000 in
theorem c_X0_whenAt (lz : Launch) (G : gG) (a : Nat → Nat) (h : HaS) (s : Nat) (p : Int32) (hs : s < 8) : gRd lz yX0_whenAt wsX0_whenAt 4 G [.ref (a 0), .int (nI s), .int p] (wHa a G.2.1 h) (hWhen h s p) := by
  refine g_rd (by decide) rfl (Nat.le_of_ble_eq_true rfl) ?_
  intro pz ez sz mz bz tz cz hx hb hr hml hown hts hlocks hP hK ls hl
  have hl : lv_has ls 4 [(0, .ref (a 0)), (1, .int (nI s)), (2, .int p)] := hl
  refine lv_iconst (v := 0) hx hb dX0_whenAt_0 (by decide) ?_
  refine lv_istore_n (lv' := [(3, .int 0), (0, .ref (a 0)), (1, .int (nI s)), (2, .int p)]) hx hb dX0_whenAt_1 rfl hl (by decide) rfl (fun ls hl => ?_)
  have lp_2 : ∀ (fu_2 : Nat) (i : Nat), (i ≤ 1000) → (firstF (fun k => hSnd h s p (nI k)) 1000 0 = firstF (fun k => hSnd h s p (nI k)) (1000 - i) i) → 1000 - i < fu_2 → ∀ ls : Array Slot, lv_has ls 4 [(0, .ref (a 0)), (1, .int (nI s)), (2, .int p), (3, .int (nI i))] → W pz lz ez (gRm 4) sz mz ([.ref (a 0), .int (nI s), .int p] : List Value).toArray bz tz cz sz.heap [] 0 0 (MQ bz (vp_Si (fun x => x = hWhen h s p)) ([.ref (a 0), .int (nI s), .int p] : List Value).toArray sz 0 0 (fun _ => False)) (F0 mz 2 ls []) := by
    intro fu_2
    induction fu_2 with
    | zero =>
      intro i hi he hf_2
      exact absurd hf_2 (Nat.not_lt_zero _)
    | succ fu_2 ih_2 =>
      intro i hi he hf_2 ls hl
      refine lv_iload_n hx hb dX0_whenAt_2 rfl (lv_at hl 3 rfl) ?_
      refine lv_sipush (v := 999) hx hb dX0_whenAt_3 (by decide) ?_
      refine lv_icmp_gt (tgt := 27) hx hb dX0_whenAt_6 (by decide) (fun c_1 => ?_) (fun c_1 => ?_)
      · skip
        have hx2 : 1000 ≤ i := gl_cx (k := 999) rfl (by decide) (by omega) c_1
        refine lv_bipush (v := (-9)) hx hb dX0_whenAt_27 (by decide) ?_
        exact g_ri hx hb hr hlocks dX0_whenAt_29 (oI_n (fF_e he hx2))
      · skip
        have hlt : i < 1000 := Nat.lt_succ_of_le (gl_ci (k := 999) rfl (by decide) (by omega) c_1)
        refine lv_aload_n hx hb dX0_whenAt_9 rfl (lv_at hl 0 rfl) ?_
        refine lv_iload_n hx hb dX0_whenAt_10 rfl (lv_at hl 1 rfl) ?_
        refine lv_iload_n hx hb dX0_whenAt_11 rfl (lv_at hl 2 rfl) ?_
        refine lv_iload_n hx hb dX0_whenAt_12 rfl (lv_at hl 3 rfl) ?_
        refine g_rdV (As := [.int (nI s), .int p, .int (nI i)]) (rest := []) (nL := 4) hx hb hml hown hts (c_X0_sounds lz G a h s p (nI i) (by omega)) gX0_whenAt_X0_sounds rfl h_X0_sounds ⟨Nat.le_of_ble_eq_true rfl, Nat.le_of_ble_eq_true rfl⟩ hK hP (ci := 0) rfl rfl rfl rfl hl.1 rfl (Nat.le_of_ble_eq_true rfl) ⟨Nat.le_refl _, Nat.le_refl _⟩ dX0_whenAt_13 ?_
        refine lv_if_eq (tgt := 21) hx hb dX0_whenAt_16 (by decide) (fun c_2 => ?_) (fun c_2 => ?_)
        · skip
          have c_2 := bI_0 c_2
          refine lv_iinc (v := nI (i + 1)) (lv' := [(3, .int (nI (i + 1))), (0, .ref (a 0)), (1, .int (nI s)), (2, .int p)]) hx hb dX0_whenAt_21 hl (k := 3) rfl (nI_1 i) (by decide) rfl (fun ls hl => ?_)
          refine lv_goto (tgt := 2) hx hb dX0_whenAt_24 (by decide) ?_
          exact ih_2 (i + 1) hlt (fF_n he hlt (by simp [c_2])) (by omega) ls (lv_sub hl [1, 2, 3, 0] rfl)
        · skip
          have c_2 := bI_1 c_2
          refine lv_iload_n hx hb dX0_whenAt_19 rfl (lv_at hl 3 rfl) ?_
          exact g_ri hx hb hr hlocks dX0_whenAt_20 (oI_s (fF_y he hlt (by simp [c_2])))
  exact lp_2 ((1000 - 0) + 1) 0 (Nat.zero_le _) rfl (Nat.lt_succ_self _) ls (lv_sub hl [1, 2, 3, 0] rfl)

theorem h_X0_oftenAt : yX0_oftenAt.cls = RX0 ∧ yX0_oftenAt.cls ≠ "java/lang/invoke/MethodHandle" ∧ yX0_oftenAt.cls ≠ "java/lang/invoke/VarHandle" ∧ (parseMethodDescriptor yX0_oftenAt.desc).map (fun d => d.parameters.length) = some 2 := by decide +kernel
set_option maxHeartbeats 4000000 in
set_option maxRecDepth 100000 in
theorem c_X0_oftenAt (lz : Launch) (G : gG) (a : Nat → Nat) (h : HaS) (s : Nat) (p : Int32) (hs : s < 8) : gRd lz yX0_oftenAt wsX0_oftenAt 4 G [.ref (a 0), .int (nI s), .int p] (wHa a G.2.1 h) (hOften h s p) := by
  refine g_rd (by decide) rfl (Nat.le_of_ble_eq_true rfl) ?_
  intro pz ez sz mz bz tz cz hx hb hr hml hown hts hlocks hP hK ls hl
  have hl : lv_has ls 5 [(0, .ref (a 0)), (1, .int (nI s)), (2, .int p)] := hl
  refine lv_iconst (v := 0) hx hb dX0_oftenAt_0 (by decide) ?_
  refine lv_istore_n (lv' := [(3, .int 0), (0, .ref (a 0)), (1, .int (nI s)), (2, .int p)]) hx hb dX0_oftenAt_1 rfl hl (by decide) rfl (fun ls hl => ?_)
  refine lv_iconst (v := 0) hx hb dX0_oftenAt_2 (by decide) ?_
  refine lv_istore (lv' := [(4, .int 0), (3, .int 0), (0, .ref (a 0)), (1, .int (nI s)), (2, .int p)]) hx hb dX0_oftenAt_3 hl (by decide) rfl (fun ls hl => ?_)
  have lp_5 : ∀ (fu_5 : Nat) (i : Nat) (x : Nat), (i ≤ 1000) → (x = cntOf (fun k => hSnd h s p (nI k)) i) → 1000 - i < fu_5 → ∀ ls : Array Slot, lv_has ls 5 [(0, .ref (a 0)), (1, .int (nI s)), (2, .int p), (3, .int (nI x)), (4, .int (nI i))] → W pz lz ez (gRm 4) sz mz ([.ref (a 0), .int (nI s), .int p] : List Value).toArray bz tz cz sz.heap [] 0 0 (MQ bz (vp_Si (fun x => x = hOften h s p)) ([.ref (a 0), .int (nI s), .int p] : List Value).toArray sz 0 0 (fun _ => False)) (F0 mz 5 ls []) := by
    intro fu_5
    induction fu_5 with
    | zero =>
      intro i x hi hac hf_5
      exact absurd hf_5 (Nat.not_lt_zero _)
    | succ fu_5 ih_5 =>
      intro i x hi hac hf_5 ls hl
      refine lv_iload hx hb dX0_oftenAt_5 (lv_at hl 4 rfl) ?_
      refine lv_sipush (v := 999) hx hb dX0_oftenAt_7 (by decide) ?_
      refine lv_icmp_gt (tgt := 33) hx hb dX0_oftenAt_10 (by decide) (fun c_1 => ?_) (fun c_1 => ?_)
      · skip
        have hx2 : 1000 ≤ i := gl_cx (k := 999) rfl (by decide) (by omega) c_1
        refine lv_iload_n hx hb dX0_oftenAt_33 rfl (lv_at hl 3 rfl) ?_
        exact g_ri hx hb hr hlocks dX0_oftenAt_34 (by rw [hac, show i = 1000 by omega]; rfl)
      · skip
        have hlt : i < 1000 := Nat.lt_succ_of_le (gl_ci (k := 999) rfl (by decide) (by omega) c_1)
        refine lv_aload_n hx hb dX0_oftenAt_13 rfl (lv_at hl 0 rfl) ?_
        refine lv_iload_n hx hb dX0_oftenAt_14 rfl (lv_at hl 1 rfl) ?_
        refine lv_iload_n hx hb dX0_oftenAt_15 rfl (lv_at hl 2 rfl) ?_
        refine lv_iload hx hb dX0_oftenAt_16 (lv_at hl 4 rfl) ?_
        refine g_rdV (As := [.int (nI s), .int p, .int (nI i)]) (rest := []) (nL := 5) hx hb hml hown hts (c_X0_sounds lz G a h s p (nI i) (by omega)) gX0_oftenAt_X0_sounds rfl h_X0_sounds ⟨Nat.le_of_ble_eq_true rfl, Nat.le_of_ble_eq_true rfl⟩ hK hP (ci := 0) rfl rfl rfl rfl hl.1 rfl (Nat.le_of_ble_eq_true rfl) ⟨Nat.le_refl _, Nat.le_refl _⟩ dX0_oftenAt_18 ?_
        refine lv_if_eq (tgt := 27) hx hb dX0_oftenAt_21 (by decide) (fun c_2 => ?_) (fun c_2 => ?_)
        · skip
          have c_2 := bI_0 c_2
          refine lv_iinc (v := nI (i + 1)) (lv' := [(4, .int (nI (i + 1))), (0, .ref (a 0)), (1, .int (nI s)), (2, .int p), (3, .int (nI x))]) hx hb dX0_oftenAt_27 hl (k := 4) rfl (nI_1 i) (by decide) rfl (fun ls hl => ?_)
          refine lv_goto (tgt := 5) hx hb dX0_oftenAt_30 (by decide) ?_
          exact ih_5 (i + 1) x hlt (cO_n hac (by simp [c_2])) (by omega) ls (lv_sub hl [1, 2, 3, 4, 0] rfl)
        · skip
          have c_2 := bI_1 c_2
          refine lv_iinc (v := nI (x + 1)) (lv' := [(3, .int (nI (x + 1))), (0, .ref (a 0)), (1, .int (nI s)), (2, .int p), (4, .int (nI i))]) hx hb dX0_oftenAt_24 hl (k := 3) rfl (nI_1 x) (by decide) rfl (fun ls hl => ?_)
          refine lv_iinc (v := nI (i + 1)) (lv' := [(4, .int (nI (i + 1))), (3, .int (nI (x + 1))), (0, .ref (a 0)), (1, .int (nI s)), (2, .int p)]) hx hb dX0_oftenAt_27 hl (k := 4) rfl (nI_1 i) (by decide) rfl (fun ls hl => ?_)
          refine lv_goto (tgt := 5) hx hb dX0_oftenAt_30 (by decide) ?_
          exact ih_5 (i + 1) (x + 1) hlt (cO_y hac (by simp [c_2])) (by omega) ls (lv_sub hl [2, 3, 4, 1, 0] rfl)
  exact lp_5 ((1000 - 0) + 1) 0 0 (Nat.zero_le _) rfl (Nat.lt_succ_self _) ls (lv_sub hl [2, 3, 4, 1, 0] rfl)

theorem h_X0_meetingOf : yX0_meetingOf.cls = RX0 ∧ yX0_meetingOf.cls ≠ "java/lang/invoke/MethodHandle" ∧ yX0_meetingOf.cls ≠ "java/lang/invoke/VarHandle" ∧ (parseMethodDescriptor yX0_meetingOf.desc).map (fun d => d.parameters.length) = some 2 := by decide +kernel
set_option maxHeartbeats 4000000 in
set_option maxRecDepth 100000 in
theorem c_X0_meetingOf (lz : Launch) (G : gG) (a : Nat → Nat) (h : HaS) (s t : Nat) (hs : s < 8) (ht : t < 8) : gRd lz yX0_meetingOf wsX0_meetingOf 4 G [.ref (a 0), .int (nI s), .int (nI t)] (wHa a G.2.1 h) (hMeet h s t) := by
  refine g_rd (by decide) rfl (Nat.le_of_ble_eq_true rfl) ?_
  intro pz ez sz mz bz tz cz hx hb hr hml hown hts hlocks hP hK ls hl
  have hl : lv_has ls 4 [(0, .ref (a 0)), (1, .int (nI s)), (2, .int (nI t))] := hl
  refine lv_iconst (v := 0) hx hb dX0_meetingOf_0 (by decide) ?_
  refine lv_istore_n (lv' := [(3, .int 0), (0, .ref (a 0)), (1, .int (nI s)), (2, .int (nI t))]) hx hb dX0_meetingOf_1 rfl hl (by decide) rfl (fun ls hl => ?_)
  have lp_2 : ∀ (fu_2 : Nat) (i : Nat), (i ≤ 1000) → (firstF (fun k => decide (0 < hStr h s (nI k)) && hSnd h t (hPlace h s (nI k)) (nI k)) 1000 0 = firstF (fun k => decide (0 < hStr h s (nI k)) && hSnd h t (hPlace h s (nI k)) (nI k)) (1000 - i) i) → 1000 - i < fu_2 → ∀ ls : Array Slot, lv_has ls 4 [(0, .ref (a 0)), (1, .int (nI s)), (2, .int (nI t)), (3, .int (nI i))] → W pz lz ez (gRm 4) sz mz ([.ref (a 0), .int (nI s), .int (nI t)] : List Value).toArray bz tz cz sz.heap [] 0 0 (MQ bz (vp_Si (fun x => x = hMeet h s t)) ([.ref (a 0), .int (nI s), .int (nI t)] : List Value).toArray sz 0 0 (fun _ => False)) (F0 mz 2 ls []) := by
    intro fu_2
    induction fu_2 with
    | zero =>
      intro i hi he hf_2
      exact absurd hf_2 (Nat.not_lt_zero _)
    | succ fu_2 ih_2 =>
      intro i hi he hf_2 ls hl
      refine lv_iload_n hx hb dX0_meetingOf_2 rfl (lv_at hl 3 rfl) ?_
      refine lv_sipush (v := 999) hx hb dX0_meetingOf_3 (by decide) ?_
      refine lv_icmp_gt (tgt := 41) hx hb dX0_meetingOf_6 (by decide) (fun c_1 => ?_) (fun c_1 => ?_)
      · skip
        have hx2 : 1000 ≤ i := gl_cx (k := 999) rfl (by decide) (by omega) c_1
        refine lv_bipush (v := (-9)) hx hb dX0_meetingOf_41 (by decide) ?_
        exact g_ri hx hb hr hlocks dX0_meetingOf_43 (oI_n (fF_e he hx2))
      · skip
        have hlt : i < 1000 := Nat.lt_succ_of_le (gl_ci (k := 999) rfl (by decide) (by omega) c_1)
        refine lv_aload_n hx hb dX0_meetingOf_9 rfl (lv_at hl 0 rfl) ?_
        refine lv_iload_n hx hb dX0_meetingOf_10 rfl (lv_at hl 1 rfl) ?_
        refine lv_iload_n hx hb dX0_meetingOf_11 rfl (lv_at hl 3 rfl) ?_
        refine g_rdV (As := [.int (nI s), .int (nI i)]) (rest := []) (nL := 4) hx hb hml hown hts (c_X0_strengthAfter lz G a h s (nI i) (by omega)) gX0_meetingOf_X0_strengthAfter rfl h_X0_strengthAfter ⟨Nat.le_of_ble_eq_true rfl, Nat.le_of_ble_eq_true rfl⟩ hK hP (ci := 0) rfl rfl rfl rfl hl.1 rfl (Nat.le_of_ble_eq_true rfl) ⟨Nat.le_refl _, Nat.le_refl _⟩ dX0_meetingOf_12 ?_
        refine lv_if_le (tgt := 35) hx hb dX0_meetingOf_15 (by decide) (fun c_2 => ?_) (fun c_2 => ?_)
        · skip
          have c_2 := gl_le c_2
          refine lv_iinc (v := nI (i + 1)) (lv' := [(3, .int (nI (i + 1))), (0, .ref (a 0)), (1, .int (nI s)), (2, .int (nI t))]) hx hb dX0_meetingOf_35 hl (k := 3) rfl (nI_1 i) (by decide) rfl (fun ls hl => ?_)
          refine lv_goto (tgt := 2) hx hb dX0_meetingOf_38 (by decide) ?_
          exact ih_2 (i + 1) hlt (fF_n he hlt (by simp [c_2])) (by omega) ls (lv_sub hl [1, 2, 3, 0] rfl)
        · skip
          have c_2 := gl_nle c_2
          refine lv_aload_n hx hb dX0_meetingOf_18 rfl (lv_at hl 0 rfl) ?_
          refine lv_iload_n hx hb dX0_meetingOf_19 rfl (lv_at hl 2 rfl) ?_
          refine lv_aload_n hx hb dX0_meetingOf_20 rfl (lv_at hl 0 rfl) ?_
          refine lv_iload_n hx hb dX0_meetingOf_21 rfl (lv_at hl 1 rfl) ?_
          refine lv_iload_n hx hb dX0_meetingOf_22 rfl (lv_at hl 3 rfl) ?_
          refine g_rdV (As := [.int (nI s), .int (nI i)]) (rest := [.int (nI t), .ref (a 0)]) (nL := 4) hx hb hml hown hts (c_X0_placeAfter lz G a h s (nI i) (by omega)) gX0_meetingOf_X0_placeAfter rfl h_X0_placeAfter ⟨Nat.le_of_ble_eq_true rfl, Nat.le_of_ble_eq_true rfl⟩ hK hP (ci := 0) rfl rfl rfl rfl hl.1 rfl (Nat.le_of_ble_eq_true rfl) ⟨Nat.le_refl _, Nat.le_refl _⟩ dX0_meetingOf_23 ?_
          refine lv_iload_n hx hb dX0_meetingOf_26 rfl (lv_at hl 3 rfl) ?_
          refine g_rdV (As := [.int (nI t), .int (hPlace h s (nI i)), .int (nI i)]) (rest := []) (nL := 4) hx hb hml hown hts (c_X0_sounds lz G a h t (hPlace h s (nI i)) (nI i) (by omega)) gX0_meetingOf_X0_sounds rfl h_X0_sounds ⟨Nat.le_of_ble_eq_true rfl, Nat.le_of_ble_eq_true rfl⟩ hK hP (ci := 0) rfl rfl rfl rfl hl.1 rfl (Nat.le_of_ble_eq_true rfl) ⟨Nat.le_refl _, Nat.le_refl _⟩ dX0_meetingOf_27 ?_
          refine lv_if_eq (tgt := 35) hx hb dX0_meetingOf_30 (by decide) (fun c_3 => ?_) (fun c_3 => ?_)
          · skip
            have c_3 := bI_0 c_3
            refine lv_iinc (v := nI (i + 1)) (lv' := [(3, .int (nI (i + 1))), (0, .ref (a 0)), (1, .int (nI s)), (2, .int (nI t))]) hx hb dX0_meetingOf_35 hl (k := 3) rfl (nI_1 i) (by decide) rfl (fun ls hl => ?_)
            refine lv_goto (tgt := 2) hx hb dX0_meetingOf_38 (by decide) ?_
            exact ih_2 (i + 1) hlt (fF_n he hlt (by simp [c_2, c_3])) (by omega) ls (lv_sub hl [1, 2, 3, 0] rfl)
          · skip
            have c_3 := bI_1 c_3
            refine lv_iload_n hx hb dX0_meetingOf_33 rfl (lv_at hl 3 rfl) ?_
            exact g_ri hx hb hr hlocks dX0_meetingOf_34 (oI_s (fF_y he hlt (by simp [c_2, c_3])))
  exact lp_2 ((1000 - 0) + 1) 0 (Nat.zero_le _) rfl (Nat.lt_succ_self _) ls (lv_sub hl [1, 2, 3, 0] rfl)

theorem i_X0_ticksTo_X0 : ∀ w ∈ wsX00, w ∈ wsX0_ticksTo := by decide +kernel
theorem h_X0_ticksTo : yX0_ticksTo.cls = RX0 ∧ yX0_ticksTo.cls ≠ "java/lang/invoke/MethodHandle" ∧ yX0_ticksTo.cls ≠ "java/lang/invoke/VarHandle" ∧ (parseMethodDescriptor yX0_ticksTo.desc).map (fun d => d.parameters.length) = some 4 := by decide +kernel
set_option maxHeartbeats 4000000 in
set_option maxRecDepth 100000 in
theorem c_X0_ticksTo (lz : Launch) (G : gG) (a : Nat → Nat) (h : HaS) (N : Nat) (hN : h.pl = nI N) (hN24 : N ≤ 24) (p q sp way : Int32) : gRd lz yX0_ticksTo wsX0_ticksTo 2 G [.ref (a 0), .int p, .int q, .int sp, .int way] (wHa a G.2.1 h) (hTicksTo h N p q sp way) := by
  refine g_rd (by decide) rfl (Nat.le_of_ble_eq_true rfl) ?_
  intro pz ez sz mz bz tz cz hx hb hr hml hown hts hlocks hP hK ls hl
  have hl : lv_has ls 6 [(0, .ref (a 0)), (1, .int p), (2, .int q), (3, .int sp), (4, .int way)] := hl
  have f9 := hts (.fieldLink RX0 9 "WhisperRing$Hall" "places" "I") (by decide +kernel)
  refine lv_iconst (v := 0) hx hb dX0_ticksTo_0 (by decide) ?_
  refine lv_istore (lv' := [(5, .int 0), (0, .ref (a 0)), (1, .int p), (2, .int q), (3, .int sp), (4, .int way)]) hx hb dX0_ticksTo_1 hl (by decide) rfl (fun ls hl => ?_)
  have lp_3 : ∀ (fu_3 : Nat) (i : Nat), (i ≤ N) → (firstF (fun k => decide (hReach h p way (sp * nI k) = q)) N 0 = firstF (fun k => decide (hReach h p way (sp * nI k) = q)) (N - i) i) → N - i < fu_3 → ∀ ls : Array Slot, lv_has ls 6 [(0, .ref (a 0)), (1, .int p), (2, .int q), (3, .int sp), (4, .int way), (5, .int (nI i))] → W pz lz ez (gRm 2) sz mz ([.ref (a 0), .int p, .int q, .int sp, .int way] : List Value).toArray bz tz cz sz.heap [] 0 0 (MQ bz (vp_Si (fun x => x = hTicksTo h N p q sp way)) ([.ref (a 0), .int p, .int q, .int sp, .int way] : List Value).toArray sz 0 0 (fun _ => False)) (F0 mz 3 ls []) := by
    intro fu_3
    induction fu_3 with
    | zero =>
      intro i hi he hf_3
      exact absurd hf_3 (Nat.not_lt_zero _)
    | succ fu_3 ih_3 =>
      intro i hi he hf_3 ls hl
      refine lv_iload hx hb dX0_ticksTo_3 (lv_at hl 5 rfl) ?_
      refine lv_aload_n hx hb dX0_ticksTo_5 rfl (lv_at hl 0 rfl) ?_
      refine va_get (D := G.1) (ci := 0) (v := .int h.pl) (C := RX0) (T := TX0) (N := 6) hx hb hts i_X0_ticksTo_X0 hown hK.1 hP 0 rfl rfl 0 (by decide) f9 (fun _ h9 => h9) rfl dX0_ticksTo_6 ?_
      refine lv_icmp_ge (tgt := 36) hx hb dX0_ticksTo_9 (by decide) (fun c_1 => ?_) (fun c_1 => ?_)
      · skip
        have c_1 := gl_le c_1
        have hx2 : N ≤ i := gl_ex hN (by omega) (by omega) c_1
        refine lv_bipush (v := (-9)) hx hb dX0_ticksTo_36 (by decide) ?_
        exact g_ri hx hb hr hlocks dX0_ticksTo_38 (oI_n (fF_e he hx2))
      · skip
        have c_1 := gl_nle c_1
        have hlt : i < N := gl_in hN (by omega) (by omega) c_1
        refine lv_aload_n hx hb dX0_ticksTo_12 rfl (lv_at hl 0 rfl) ?_
        refine lv_iload_n hx hb dX0_ticksTo_13 rfl (lv_at hl 1 rfl) ?_
        refine lv_iload hx hb dX0_ticksTo_14 (lv_at hl 4 rfl) ?_
        refine lv_iload_n hx hb dX0_ticksTo_16 rfl (lv_at hl 3 rfl) ?_
        refine lv_iload hx hb dX0_ticksTo_17 (lv_at hl 5 rfl) ?_
        refine lv_imul hx hb dX0_ticksTo_19 ?_
        refine g_rdV (As := [.int p, .int way, .int (sp * (nI i))]) (rest := []) (nL := 6) hx hb hml hown hts (c_X0_reach lz G a h p way (sp * (nI i))) gX0_ticksTo_X0_reach rfl h_X0_reach ⟨Nat.le_of_ble_eq_true rfl, Nat.le_of_ble_eq_true rfl⟩ hK hP (ci := 0) rfl rfl rfl rfl hl.1 rfl (Nat.le_of_ble_eq_true rfl) ⟨Nat.le_refl _, Nat.le_refl _⟩ dX0_ticksTo_20 ?_
        refine lv_iload_n hx hb dX0_ticksTo_23 rfl (lv_at hl 2 rfl) ?_
        refine lv_icmp_ne (tgt := 30) hx hb dX0_ticksTo_24 (by decide) (fun c_2 => ?_) (fun c_2 => ?_)
        · skip
          refine lv_iinc (v := nI (i + 1)) (lv' := [(5, .int (nI (i + 1))), (0, .ref (a 0)), (1, .int p), (2, .int q), (3, .int sp), (4, .int way)]) hx hb dX0_ticksTo_30 hl (k := 5) rfl (nI_1 i) (by decide) rfl (fun ls hl => ?_)
          refine lv_goto (tgt := 3) hx hb dX0_ticksTo_33 (by decide) ?_
          exact ih_3 (i + 1) hlt (fF_n he hlt (by simp [c_2])) (by omega) ls (lv_sub hl [1, 2, 3, 4, 5, 0] rfl)
        · skip
          refine lv_iload hx hb dX0_ticksTo_27 (lv_at hl 5 rfl) ?_
          exact g_ri hx hb hr hlocks dX0_ticksTo_29 (oI_s (fF_y he hlt (by simp [c_2])))
  exact lp_3 ((N - 0) + 1) 0 (Nat.zero_le _) rfl (Nat.lt_succ_self _) ls (lv_sub hl [1, 2, 3, 4, 5, 0] rfl)

theorem i_X0_listen_X0 : ∀ w ∈ wsX00, w ∈ wsX0_listen := by decide +kernel
theorem i_X0_listen_X2 : ∀ w ∈ wsX20, w ∈ wsX0_listen := by decide +kernel
theorem h_X0_listen : yX0_listen.cls = RX0 ∧ yX0_listen.cls ≠ "java/lang/invoke/MethodHandle" ∧ yX0_listen.cls ≠ "java/lang/invoke/VarHandle" ∧ (parseMethodDescriptor yX0_listen.desc).map (fun d => d.parameters.length) = some 1 := by decide +kernel
set_option maxHeartbeats 4000000 in
set_option maxRecDepth 100000 in
theorem c_X0_listen (lz : Launch) (G : gG) (a : Nat → Nat) (h : HaS) (n : Nat) (k : Int32) (hn : h.mo.sayings = nI n) (hn8 : n ≤ 8) : gWr lz yX0_listen wsX0_listen 3 G [.ref (a 0), .int k] (wHa a G.2.1 h) (wHa a G.2.1 (hLis h n k)) none := by
  refine g_wr (by decide) rfl (Nat.le_of_ble_eq_true rfl) ?_
  intro pz ez sz mz bz tz cz hx hb hr hml hown hts hlocks hK A hAe hP hD hS ls hl
  have hl : lv_has ls 3 [(0, .ref (a 0)), (1, .int k)] := hl
  have f21 := hts (.fieldLink RX0 21 "WhisperRing$Hall" "now" "LWhisperRing$Moment;") (by decide +kernel)
  have f25 := hts (.fieldLink RX0 25 "WhisperRing$Hall" "at" "[I") (by decide +kernel)
  have f29 := hts (.fieldLink RX0 29 "WhisperRing$Hall" "strength" "[I") (by decide +kernel)
  have f42 := hts (.fieldLink RX0 42 "WhisperRing$Moment" "sayings" "I") (by decide +kernel)
  refine lv_iconst (v := 0) hx hb dX0_listen_0 (by decide) ?_
  refine lv_istore_n (lv' := [(2, .int 0), (0, .ref (a 0)), (1, .int k)]) hx hb dX0_listen_1 rfl hl (by decide) rfl (fun ls hl => ?_)
  have lp_2 : ∀ (fu_2 : Nat) (i : Nat) (u : Nat → Int32) (v : Nat → Int32), (i ≤ n) → (u = lsF (fun s => hPlace h s k) h.ats i) → (v = lsF (fun s => hStr h s k) h.str i) → n - i < fu_2 → ∀ (H : Heap) (locs : List Loc), va_P G.1 vwCl (wHa a G.2.1 (h.pl, h.loss, h.nich, h.mo, u, v)) H → va_D A (wHa a G.2.1 (h.pl, h.loss, h.nich, h.mo, u, v)) → va_S A sz.heap H locs → ∀ ls : Array Slot, lv_has ls 3 [(0, .ref (a 0)), (1, .int k), (2, .int (nI i))] → W pz lz ez (gRm 3) sz mz ([.ref (a 0), .int k] : List Value).toArray bz tz cz H locs 0 0 (MQ bz (gQ G (wHa a G.2.1 h) (wHa a G.2.1 (hLis h n k)) none) ([.ref (a 0), .int k] : List Value).toArray sz 0 0 (gAd (wHa a G.2.1 h))) (F0 mz 2 ls []) := by
    intro fu_2
    induction fu_2 with
    | zero =>
      intro i u v hi hu hv hf_2
      exact absurd hf_2 (Nat.not_lt_zero _)
    | succ fu_2 ih_2 =>
      intro i u v hi hu hv hf_2 H locs hP hD hS ls hl
      refine lv_iload_n hx hb dX0_listen_2 rfl (lv_at hl 2 rfl) ?_
      refine lv_aload_n hx hb dX0_listen_3 rfl (lv_at hl 0 rfl) ?_
      refine va_get (D := G.1) (ci := 0) (v := .ref (a 1)) (C := RX0) (T := TX0) (N := 6) hx hb hts i_X0_listen_X0 hown hK.1 hP 0 rfl rfl 3 (by decide) f21 (fun _ h9 => h9) rfl dX0_listen_4 ?_
      refine va_get (D := G.1) (ci := 2) (v := .int h.mo.sayings) (C := RX2) (T := TX2) (N := 10) hx hb hts i_X0_listen_X2 hown hK.1 hP 1 rfl rfl 1 (by decide) f42 (fun _ h9 => h9) rfl dX0_listen_7 ?_
      refine lv_icmp_ge (tgt := 43) hx hb dX0_listen_10 (by decide) (fun c_1 => ?_) (fun c_1 => ?_)
      · skip
        have c_1 := gl_le c_1
        have hx2 : n ≤ i := gl_ex hn (by omega) (by omega) c_1
        have hP : va_P G.1 vwCl (wHa a G.2.1 (hLis h n k)) H := by
          rw [hu, hv, show i = n by omega] at hP
          exact hP
        exact g_wv hx hb hr hlocks hAe hP hS dX0_listen_43
      · skip
        have c_1 := gl_nle c_1
        have hlt : i < n := gl_in hn (by omega) (by omega) c_1
        refine lv_aload_n hx hb dX0_listen_13 rfl (lv_at hl 0 rfl) ?_
        refine va_get (D := G.1) (ci := 0) (v := .ref (a 8)) (C := RX0) (T := TX0) (N := 6) hx hb hts i_X0_listen_X0 hown hK.1 hP 0 rfl rfl 4 (by decide) f25 (fun _ h9 => h9) rfl dX0_listen_14 ?_
        refine lv_iload_n hx hb dX0_listen_17 rfl (lv_at hl 2 rfl) ?_
        refine lv_aload_n hx hb dX0_listen_18 rfl (lv_at hl 0 rfl) ?_
        refine lv_iload_n hx hb dX0_listen_19 rfl (lv_at hl 2 rfl) ?_
        refine lv_iload_n hx hb dX0_listen_20 rfl (lv_at hl 1 rfl) ?_
        refine g_rdV (As := [.int (nI i), .int k]) (rest := [.int (nI i), .ref (a 8)]) (nL := 3) hx hb hml hown hts (c_X0_placeAfter lz G a (h.pl, h.loss, h.nich, h.mo, u, v) i k (by omega)) gX0_listen_X0_placeAfter rfl h_X0_placeAfter ⟨Nat.le_of_ble_eq_true rfl, Nat.le_of_ble_eq_true rfl⟩ hK hP (ci := 0) rfl rfl rfl rfl hl.1 rfl (Nat.le_of_ble_eq_true rfl) ⟨Nat.le_refl _, Nat.le_refl _⟩ dX0_listen_21 ?_
        refine g_iast hx hb hK.1 hP hD hS 8 0 rfl rfl (i := i) (by omega) (by decide) dX0_listen_24 (fun H locs hP hD hS => ?_)
        have hP : va_P G.1 vwCl (wHa a G.2.1 (h.pl, h.loss, h.nich, h.mo, upd u i (hPlace (h.pl, h.loss, h.nich, h.mo, u, v) i k), v)) H := hP
        have hD : va_D A (wHa a G.2.1 (h.pl, h.loss, h.nich, h.mo, upd u i (hPlace (h.pl, h.loss, h.nich, h.mo, u, v) i k), v)) := hD
        refine lv_aload_n hx hb dX0_listen_25 rfl (lv_at hl 0 rfl) ?_
        refine va_get (D := G.1) (ci := 0) (v := .ref (a 9)) (C := RX0) (T := TX0) (N := 6) hx hb hts i_X0_listen_X0 hown hK.1 hP 0 rfl rfl 5 (by decide) f29 (fun _ h9 => h9) rfl dX0_listen_26 ?_
        refine lv_iload_n hx hb dX0_listen_29 rfl (lv_at hl 2 rfl) ?_
        refine lv_aload_n hx hb dX0_listen_30 rfl (lv_at hl 0 rfl) ?_
        refine lv_iload_n hx hb dX0_listen_31 rfl (lv_at hl 2 rfl) ?_
        refine lv_iload_n hx hb dX0_listen_32 rfl (lv_at hl 1 rfl) ?_
        refine g_rdV (As := [.int (nI i), .int k]) (rest := [.int (nI i), .ref (a 9)]) (nL := 3) hx hb hml hown hts (c_X0_strengthAfter lz G a (h.pl, h.loss, h.nich, h.mo, upd u i (hPlace (h.pl, h.loss, h.nich, h.mo, u, v) i k), v) i k (by omega)) gX0_listen_X0_strengthAfter rfl h_X0_strengthAfter ⟨Nat.le_of_ble_eq_true rfl, Nat.le_of_ble_eq_true rfl⟩ hK hP (ci := 0) rfl rfl rfl rfl hl.1 rfl (Nat.le_of_ble_eq_true rfl) ⟨Nat.le_refl _, Nat.le_refl _⟩ dX0_listen_33 ?_
        refine g_iast hx hb hK.1 hP hD hS 9 0 rfl rfl (i := i) (by omega) (by decide) dX0_listen_36 (fun H locs hP hD hS => ?_)
        have hP : va_P G.1 vwCl (wHa a G.2.1 (h.pl, h.loss, h.nich, h.mo, upd u i (hPlace (h.pl, h.loss, h.nich, h.mo, u, v) i k), upd v i (hStr (h.pl, h.loss, h.nich, h.mo, upd u i (hPlace (h.pl, h.loss, h.nich, h.mo, u, v) i k), v) i k))) H := hP
        have hD : va_D A (wHa a G.2.1 (h.pl, h.loss, h.nich, h.mo, upd u i (hPlace (h.pl, h.loss, h.nich, h.mo, u, v) i k), upd v i (hStr (h.pl, h.loss, h.nich, h.mo, upd u i (hPlace (h.pl, h.loss, h.nich, h.mo, u, v) i k), v) i k))) := hD
        refine lv_iinc (v := nI (i + 1)) (lv' := [(2, .int (nI (i + 1))), (0, .ref (a 0)), (1, .int k)]) hx hb dX0_listen_37 hl (k := 2) rfl (nI_1 i) (by decide) rfl (fun ls hl => ?_)
        refine lv_goto (tgt := 2) hx hb dX0_listen_40 (by decide) ?_
        exact ih_2 (i + 1) (upd u i (hPlace (h.pl, h.loss, h.nich, h.mo, u, v) i k)) (upd v i (hStr (h.pl, h.loss, h.nich, h.mo, upd u i (hPlace (h.pl, h.loss, h.nich, h.mo, u, v) i k), v) i k)) hlt (by rw [hu]; exact lsF_s rfl) (by rw [hv]; exact lsF_s rfl) (by omega) _ _ hP hD hS ls (lv_sub hl [1, 2, 0] rfl)
  exact lp_2 ((n - 0) + 1) 0 h.ats h.str (Nat.zero_le _) ((lsF_0 _ _).symm) ((lsF_0 _ _).symm) (Nat.lt_succ_self _) _ _ hP hD hS ls (lv_sub hl [1, 2, 0] rfl)

theorem h_X0_quietOf : yX0_quietOf.cls = RX0 ∧ yX0_quietOf.cls ≠ "java/lang/invoke/MethodHandle" ∧ yX0_quietOf.cls ≠ "java/lang/invoke/VarHandle" ∧ (parseMethodDescriptor yX0_quietOf.desc).map (fun d => d.parameters.length) = some 1 := by decide +kernel
set_option maxHeartbeats 4000000 in
set_option maxRecDepth 100000 in
theorem c_X0_quietOf (lz : Launch) (G : gG) (a : Nat → Nat) (h : HaS) (n : Nat) (p : Int32) (hn : h.mo.sayings = nI n) (hn8 : n ≤ 8) : gWr lz yX0_quietOf wsX0_quietOf 4 G [.ref (a 0), .int p] (wHa a G.2.1 h) (wHa a G.2.1 (hQuiS h n p)) (some (.int (oI (hQuiF h n p)))) := by
  refine g_wr (by decide) rfl (Nat.le_of_ble_eq_true rfl) ?_
  intro pz ez sz mz bz tz cz hx hb hr hml hown hts hlocks hK A hAe hP hD hS ls hl
  have hl : lv_has ls 3 [(0, .ref (a 0)), (1, .int p)] := hl
  refine lv_iconst (v := 0) hx hb dX0_quietOf_0 (by decide) ?_
  refine lv_istore_n (lv' := [(2, .int 0), (0, .ref (a 0)), (1, .int p)]) hx hb dX0_quietOf_1 rfl hl (by decide) rfl (fun ls hl => ?_)
  have lp_2 : ∀ (fu_2 : Nat) (i : Nat) (g : HaS), (i ≤ 100) → (firstF (fun k => decide (hSndB (hLis h n (nI k)) n p = 0)) 100 0 = firstF (fun k => decide (hSndB (hLis h n (nI k)) n p = 0)) (100 - i) i) → (∀ z, hLis g n z = hLis h n z) → (g.mo.sayings = nI n) → (∀ j, i = j + 1 → g = hLis h n (nI j)) → 100 - i < fu_2 → ∀ (H : Heap) (locs : List Loc), va_P G.1 vwCl (wHa a G.2.1 g) H → va_D A (wHa a G.2.1 g) → va_S A sz.heap H locs → ∀ ls : Array Slot, lv_has ls 3 [(0, .ref (a 0)), (1, .int p), (2, .int (nI i))] → W pz lz ez (gRm 4) sz mz ([.ref (a 0), .int p] : List Value).toArray bz tz cz H locs 0 0 (MQ bz (gQ G (wHa a G.2.1 h) (wHa a G.2.1 (hQuiS h n p)) (some (.int (oI (hQuiF h n p))))) ([.ref (a 0), .int p] : List Value).toArray sz 0 0 (gAd (wHa a G.2.1 h))) (F0 mz 2 ls []) := by
    intro fu_2
    induction fu_2 with
    | zero =>
      intro i g hi he hg hgn hgl hf_2
      exact absurd hf_2 (Nat.not_lt_zero _)
    | succ fu_2 ih_2 =>
      intro i g hi he hg hgn hgl hf_2 H locs hP hD hS ls hl
      refine lv_iload_n hx hb dX0_quietOf_2 rfl (lv_at hl 2 rfl) ?_
      refine lv_bipush (v := 99) hx hb dX0_quietOf_3 (by decide) ?_
      refine lv_icmp_gt (tgt := 29) hx hb dX0_quietOf_5 (by decide) (fun c_1 => ?_) (fun c_1 => ?_)
      · skip
        have hx2 : 100 ≤ i := gl_cx (k := 99) rfl (by decide) (by omega) c_1
        refine lv_bipush (v := (-9)) hx hb dX0_quietOf_29 (by decide) ?_
        have hfin := fF_e he hx2
        have hP : va_P G.1 vwCl (wHa a G.2.1 (hQuiS h n p)) H := by
          rw [hQuiS, hfin]
          rw [hgl 99 (by omega)] at hP
          exact hP
        exact g_wi hx hb hr hlocks hAe hP hS dX0_quietOf_31 (oI_n hfin)
      · skip
        have hlt : i < 100 := Nat.lt_succ_of_le (gl_ci (k := 99) rfl (by decide) (by omega) c_1)
        refine lv_aload_n hx hb dX0_quietOf_8 rfl (lv_at hl 0 rfl) ?_
        refine lv_iload_n hx hb dX0_quietOf_9 rfl (lv_at hl 2 rfl) ?_
        refine g_wrV (As := [.int (nI i)]) (rest := []) (nL := 3) hx hb hml hown hts (c_X0_listen lz G a g n (nI i) hgn hn8) gX0_quietOf_X0_listen rfl h_X0_listen ⟨Nat.le_of_ble_eq_true rfl, Nat.le_of_ble_eq_true rfl⟩ hK hP hD hS [0, 1, 2, 3, 4, 5, 6, 7, 8, 9] rfl rfl rfl (ws1 := wHa a G.2.1 (hLis g n (nI i))) rfl [a 0, a 1, a 2, a 3, a 4, a 5, a 6, a 7, a 8, a 9] rfl rfl (ci := 0) rfl rfl rfl rfl hl.1 rfl (Nat.le_of_ble_eq_true rfl) ⟨Nat.le_refl _, Nat.le_refl _⟩ dX0_quietOf_10 (fun H locs hP hD hS => ?_)
        rw [hg] at hP hD
        refine lv_aload_n hx hb dX0_quietOf_13 rfl (lv_at hl 0 rfl) ?_
        refine lv_iload_n hx hb dX0_quietOf_14 rfl (lv_at hl 1 rfl) ?_
        refine g_rdV (As := [.int p]) (rest := []) (nL := 3) hx hb hml hown hts (c_X0_soundingAt lz G a (hLis h n (nI i)) n p hn hn8) gX0_quietOf_X0_soundingAt rfl h_X0_soundingAt ⟨Nat.le_of_ble_eq_true rfl, Nat.le_of_ble_eq_true rfl⟩ hK hP (ci := 0) rfl rfl rfl rfl hl.1 rfl (Nat.le_of_ble_eq_true rfl) ⟨Nat.le_refl _, Nat.le_refl _⟩ dX0_quietOf_15 ?_
        refine lv_if_ne (tgt := 23) hx hb dX0_quietOf_18 (by decide) (fun c_2 => ?_) (fun c_2 => ?_)
        · skip
          refine lv_iinc (v := nI (i + 1)) (lv' := [(2, .int (nI (i + 1))), (0, .ref (a 0)), (1, .int p)]) hx hb dX0_quietOf_23 hl (k := 2) rfl (nI_1 i) (by decide) rfl (fun ls hl => ?_)
          refine lv_goto (tgt := 2) hx hb dX0_quietOf_26 (by decide) ?_
          exact ih_2 (i + 1) (hLis h n (nI i)) hlt (fF_n he hlt (by simp [c_2])) (fun z => hLis_lis h n _ z) hn (fun j hj => by rw [show j = i by omega]) (by omega) _ _ hP hD hS ls (lv_sub hl [1, 2, 0] rfl)
        · skip
          refine lv_iload_n hx hb dX0_quietOf_21 rfl (lv_at hl 2 rfl) ?_
          have hfin := fF_y he hlt (by simp [c_2])
          have hP : va_P G.1 vwCl (wHa a G.2.1 (hQuiS h n p)) H := by
            rw [hQuiS, hfin]
            exact hP
          exact g_wi hx hb hr hlocks hAe hP hS dX0_quietOf_22 (oI_s hfin)
  exact lp_2 ((100 - 0) + 1) 0 h (Nat.zero_le _) rfl (fun _ => rfl) hn (fun j hj => absurd hj (by omega)) (Nat.lt_succ_self _) _ _ hP hD hS ls (lv_sub hl [1, 2, 0] rfl)

theorem h_X0_firstWait : yX0_firstWait.cls = RX0 ∧ yX0_firstWait.cls ≠ "java/lang/invoke/MethodHandle" ∧ yX0_firstWait.cls ≠ "java/lang/invoke/VarHandle" ∧ (parseMethodDescriptor yX0_firstWait.desc).map (fun d => d.parameters.length) = some 3 := by decide +kernel
set_option maxHeartbeats 4000000 in
set_option maxRecDepth 100000 in
theorem c_X0_firstWait (lz : Launch) (G : gG) (a : Nat → Nat) (h : HaS) (n : Nat) (q un ow : Int32) (hn : h.mo.sayings = nI n) (hn8 : n ≤ 8) : gWr lz yX0_firstWait wsX0_firstWait 4 G [.ref (a 0), .int q, .int un, .int ow] (wHa a G.2.1 h) (wHa a G.2.1 (hWaitS h n q un ow)) (some (.int (oI (hWaitF h n q un ow)))) := by
  refine g_wr (by decide) rfl (Nat.le_of_ble_eq_true rfl) ?_
  intro pz ez sz mz bz tz cz hx hb hr hml hown hts hlocks hK A hAe hP hD hS ls hl
  have hl : lv_has ls 5 [(0, .ref (a 0)), (1, .int q), (2, .int un), (3, .int ow)] := hl
  refine lv_iconst (v := 0) hx hb dX0_firstWait_0 (by decide) ?_
  refine lv_istore (lv' := [(4, .int 0), (0, .ref (a 0)), (1, .int q), (2, .int un), (3, .int ow)]) hx hb dX0_firstWait_1 hl (by decide) rfl (fun ls hl => ?_)
  have lp_3 : ∀ (fu_3 : Nat) (i : Nat) (g : HaS), (i ≤ 100) → (firstF (fun k => decide (hStrAt (hLis h n (nI k + un)) n q < ow)) 100 0 = firstF (fun k => decide (hStrAt (hLis h n (nI k + un)) n q < ow)) (100 - i) i) → (∀ z, hLis g n z = hLis h n z) → (g.mo.sayings = nI n) → (∀ j, i = j + 1 → g = hLis h n (nI j + un)) → 100 - i < fu_3 → ∀ (H : Heap) (locs : List Loc), va_P G.1 vwCl (wHa a G.2.1 g) H → va_D A (wHa a G.2.1 g) → va_S A sz.heap H locs → ∀ ls : Array Slot, lv_has ls 5 [(0, .ref (a 0)), (1, .int q), (2, .int un), (3, .int ow), (4, .int (nI i))] → W pz lz ez (gRm 4) sz mz ([.ref (a 0), .int q, .int un, .int ow] : List Value).toArray bz tz cz H locs 0 0 (MQ bz (gQ G (wHa a G.2.1 h) (wHa a G.2.1 (hWaitS h n q un ow)) (some (.int (oI (hWaitF h n q un ow))))) ([.ref (a 0), .int q, .int un, .int ow] : List Value).toArray sz 0 0 (gAd (wHa a G.2.1 h))) (F0 mz 3 ls []) := by
    intro fu_3
    induction fu_3 with
    | zero =>
      intro i g hi he hg hgn hgl hf_3
      exact absurd hf_3 (Nat.not_lt_zero _)
    | succ fu_3 ih_3 =>
      intro i g hi he hg hgn hgl hf_3 H locs hP hD hS ls hl
      refine lv_iload hx hb dX0_firstWait_3 (lv_at hl 4 rfl) ?_
      refine lv_bipush (v := 99) hx hb dX0_firstWait_5 (by decide) ?_
      refine lv_icmp_gt (tgt := 36) hx hb dX0_firstWait_7 (by decide) (fun c_1 => ?_) (fun c_1 => ?_)
      · skip
        have hx2 : 100 ≤ i := gl_cx (k := 99) rfl (by decide) (by omega) c_1
        refine lv_bipush (v := (-9)) hx hb dX0_firstWait_36 (by decide) ?_
        have hfin := fF_e he hx2
        have hP : va_P G.1 vwCl (wHa a G.2.1 (hWaitS h n q un ow)) H := by
          rw [hWaitS, hfin]
          rw [hgl 99 (by omega)] at hP
          exact hP
        exact g_wi hx hb hr hlocks hAe hP hS dX0_firstWait_38 (oI_n hfin)
      · skip
        have hlt : i < 100 := Nat.lt_succ_of_le (gl_ci (k := 99) rfl (by decide) (by omega) c_1)
        refine lv_aload_n hx hb dX0_firstWait_10 rfl (lv_at hl 0 rfl) ?_
        refine lv_iload hx hb dX0_firstWait_11 (lv_at hl 4 rfl) ?_
        refine lv_iload_n hx hb dX0_firstWait_13 rfl (lv_at hl 2 rfl) ?_
        refine lv_iadd hx hb dX0_firstWait_14 ?_
        refine g_wrV (As := [.int ((nI i) + un)]) (rest := []) (nL := 5) hx hb hml hown hts (c_X0_listen lz G a g n ((nI i) + un) hgn hn8) gX0_firstWait_X0_listen rfl h_X0_listen ⟨Nat.le_of_ble_eq_true rfl, Nat.le_of_ble_eq_true rfl⟩ hK hP hD hS [0, 1, 2, 3, 4, 5, 6, 7, 8, 9] rfl rfl rfl (ws1 := wHa a G.2.1 (hLis g n ((nI i) + un))) rfl [a 0, a 1, a 2, a 3, a 4, a 5, a 6, a 7, a 8, a 9] rfl rfl (ci := 0) rfl rfl rfl rfl hl.1 rfl (Nat.le_of_ble_eq_true rfl) ⟨Nat.le_refl _, Nat.le_refl _⟩ dX0_firstWait_15 (fun H locs hP hD hS => ?_)
        rw [hg] at hP hD
        refine lv_iload_n hx hb dX0_firstWait_18 rfl (lv_at hl 3 rfl) ?_
        refine lv_aload_n hx hb dX0_firstWait_19 rfl (lv_at hl 0 rfl) ?_
        refine lv_iload_n hx hb dX0_firstWait_20 rfl (lv_at hl 1 rfl) ?_
        refine g_rdV (As := [.int q]) (rest := [.int ow]) (nL := 5) hx hb hml hown hts (c_X0_strengthAt lz G a (hLis h n (nI i + un)) n q hn hn8) gX0_firstWait_X0_strengthAt rfl h_X0_strengthAt ⟨Nat.le_of_ble_eq_true rfl, Nat.le_of_ble_eq_true rfl⟩ hK hP (ci := 0) rfl rfl rfl rfl hl.1 rfl (Nat.le_of_ble_eq_true rfl) ⟨Nat.le_refl _, Nat.le_refl _⟩ dX0_firstWait_21 ?_
        refine lv_icmp_le (tgt := 30) hx hb dX0_firstWait_24 (by decide) (fun c_2 => ?_) (fun c_2 => ?_)
        · skip
          have c_2 := gl_le c_2
          refine lv_iinc (v := nI (i + 1)) (lv' := [(4, .int (nI (i + 1))), (0, .ref (a 0)), (1, .int q), (2, .int un), (3, .int ow)]) hx hb dX0_firstWait_30 hl (k := 4) rfl (nI_1 i) (by decide) rfl (fun ls hl => ?_)
          refine lv_goto (tgt := 3) hx hb dX0_firstWait_33 (by decide) ?_
          exact ih_3 (i + 1) (hLis h n (nI i + un)) hlt (fF_n he hlt (by simp [c_2])) (fun z => hLis_lis h n _ z) hn (fun j hj => by rw [show j = i by omega]) (by omega) _ _ hP hD hS ls (lv_sub hl [1, 2, 3, 4, 0] rfl)
        · skip
          have c_2 := gl_nle c_2
          refine lv_iload hx hb dX0_firstWait_27 (lv_at hl 4 rfl) ?_
          have hfin := fF_y he hlt (by simp [c_2])
          have hP : va_P G.1 vwCl (wHa a G.2.1 (hWaitS h n q un ow)) H := by
            rw [hWaitS, hfin]
            exact hP
          exact g_wi hx hb hr hlocks hAe hP hS dX0_firstWait_29 (oI_s hfin)
  exact lp_3 ((100 - 0) + 1) 0 h (Nat.zero_le _) rfl (fun _ => rfl) hn (fun j hj => absurd hj (by omega)) (Nat.lt_succ_self _) _ _ hP hD hS ls (lv_sub hl [1, 2, 3, 4, 0] rfl)
