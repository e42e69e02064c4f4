theorem i_X5_number_X5 : ∀ w ∈ wsX50, w ∈ wsX5_number := by decide +kernel
theorem h_X5_number : yX5_number.cls = RX5 ∧ yX5_number.cls ≠ "java/lang/invoke/MethodHandle" ∧ yX5_number.cls ≠ "java/lang/invoke/VarHandle" ∧ (parseMethodDescriptor yX5_number.desc).map (fun d => d.parameters.length) = some 2 := by decide +kernel
set_option maxHeartbeats 4000000 in
set_option maxRecDepth 100000 in
theorem c_X5_number (lz : Launch) (G : gG) (a : Nat → Nat) (m : MdS) (lo hi : Int32) (hok : dOK m) : gWr lz yX5_number wsX5_number 2 G [.ref (a 0), .int lo, .int hi] (wMd a G.2.1 G.2.2.1 m) (wMd a G.2.1 G.2.2.1 (dNum m lo hi)) (some (.int (dNumR m lo hi))) := by
  refine g_wr (by decide) rfl (Nat.le_of_ble_eq_true rfl) ?_
  intro pz ez sz mz bz tz cz hx hb hr hml hown hts hlocks hK A hAe hP hD hS ls hl
  have hl : lv_has ls 6 [(0, .ref (a 0)), (1, .int lo), (2, .int hi)] := hl
  have f43 := hts (.fieldLink RX5 43 "WhisperRingModel" "length" "I") (by decide +kernel)
  have f46 := hts (.fieldLink RX5 46 "WhisperRingModel" "at" "I") (by decide +kernel)
  have f53 := hts (.fieldLink RX5 53 "WhisperRingModel" "wrong" "I") (by decide +kernel)
  have f7 := hts (.fieldLink RX5 7 "WhisperRingModel" "text" "[I") (by decide +kernel)
  skip
  refine lv_aload_n hx hb dX5_number_0 rfl (lv_at hl 0 rfl) ?_
  refine va_get (D := G.1) (ci := 5) (v := .int m.wrong) (C := RX5) (T := TX5) (N := 21) hx hb hts i_X5_number_X5 hown hK.1 hP 0 rfl rfl 14 (by decide) f53 (fun _ h9 => h9) rfl dX5_number_1 ?_
  refine lv_if_lt (tgt := 9) hx hb dX5_number_4 (by decide) (fun c_1 => ?_) (fun c_1 => ?_)
  · skip
    refine lv_aload_n hx hb dX5_number_9 rfl (lv_at hl 0 rfl) ?_
    refine g_wrV (As := []) (rest := []) (nL := 6) hx hb hml hown hts (c_X5_skips lz G a m hok) gX5_number_X5_skips rfl h_X5_skips ⟨Nat.le_of_ble_eq_true rfl, Nat.le_of_ble_eq_true rfl⟩ hK hP hD hS [0, 1, 2, 3, 4, 5, 6, 7] rfl rfl rfl (ws1 := wMd a G.2.1 G.2.2.1 (dSkp m)) rfl [a 0, a 1, a 2, a 3, a 4, a 5, a 6, a 7] rfl rfl (ci := 5) rfl rfl rfl rfl hl.1 rfl (Nat.le_of_ble_eq_true rfl) ⟨Nat.le_refl _, Nat.le_refl _⟩ dX5_number_10 (fun H locs hP hD hS => ?_)
    generalize ht2 : dSkp m = t2 at hP hD ⊢
    have okt2 : dOK t2 := by
      rw [← ht2]
      exact dOK_skp hok
    have hP : va_P G.1 vwCl (wMd a G.2.1 G.2.2.1 t2) H := hP
    have hD : va_D A (wMd a G.2.1 G.2.2.1 t2) := hD
    obtain ⟨Z, q, hZ, hqZ, hz, hq⟩ := id okt2
    refine lv_iconst (v := 0) hx hb dX5_number_13 (by decide) ?_
    refine lv_istore_n (lv' := [(3, .int 0), (0, .ref (a 0)), (1, .int lo), (2, .int hi)]) hx hb dX5_number_14 rfl hl (by decide) rfl (fun ls hl => ?_)
    refine lv_iconst (v := 0) hx hb dX5_number_15 (by decide) ?_
    refine lv_istore (lv' := [(4, .int 0), (3, .int 0), (0, .ref (a 0)), (1, .int lo), (2, .int hi)]) hx hb dX5_number_16 hl (by decide) rfl (fun ls hl => ?_)
    have lp_18 : ∀ (fu_18 : Nat) (c : Nat) (v : Int32), (q + c ≤ Z) → (runD t2.text Z (Z - q) q = runD t2.text Z (Z - (q + c)) (q + c)) → (v = dgV t2.text q c) → Z - (q + c) < fu_18 → ∀ ls : Array Slot, lv_has ls 6 [(0, .ref (a 0)), (1, .int lo), (2, .int hi), (3, .int (nI c)), (4, .int v)] → W pz lz ez (gRm 2) sz mz ([.ref (a 0), .int lo, .int hi] : List Value).toArray bz tz cz H locs 0 0 (MQ bz (gQ G (wMd a G.2.1 G.2.2.1 m) (wMd a G.2.1 G.2.2.1 (dNum m lo hi)) (some (.int (dNumR m lo hi)))) ([.ref (a 0), .int lo, .int hi] : List Value).toArray sz 0 0 (gAd (wMd a G.2.1 G.2.2.1 m))) (F0 mz 18 ls []) := by
      intro fu_18
      induction fu_18 with
      | zero =>
        intro c v hcZ hru hdv hf_18
        exact absurd hf_18 (Nat.not_lt_zero _)
      | succ fu_18 ih_18 =>
        intro c v hcZ hru hdv hf_18 ls hl
        refine lv_aload_n hx hb dX5_number_18 rfl (lv_at hl 0 rfl) ?_
        refine va_get (D := G.1) (ci := 5) (v := .int t2.pos) (C := RX5) (T := TX5) (N := 21) hx hb hts i_X5_number_X5 hown hK.1 hP 0 rfl rfl 13 (by decide) f46 (fun _ h9 => h9) rfl dX5_number_19 ?_
        refine lv_iload_n hx hb dX5_number_22 rfl (lv_at hl 3 rfl) ?_
        refine lv_iadd hx hb dX5_number_23 ?_
        refine g_top (y := nI (q + c)) ((by rw [hq]; exact nI_add q c)) ?_
        refine lv_aload_n hx hb dX5_number_24 rfl (lv_at hl 0 rfl) ?_
        refine va_get (D := G.1) (ci := 5) (v := .int t2.len) (C := RX5) (T := TX5) (N := 21) hx hb hts i_X5_number_X5 hown hK.1 hP 0 rfl rfl 1 (by decide) f43 (fun _ h9 => h9) rfl dX5_number_25 ?_
        refine lv_icmp_ge (tgt := 90) hx hb dX5_number_28 (by decide) (fun c_3 => ?_) (fun c_3 => ?_)
        · skip
          have c_3 := gl_le c_3
          have hex : runD t2.text Z (Z - q) q = q + c := hru.trans (runD_e (gl_ex hz (by omega) (by omega) c_3))
          refine lv_iload_n hx hb dX5_number_90 rfl (lv_at hl 3 rfl) ?_
          refine lv_iconst (v := 1) hx hb dX5_number_91 (by decide) ?_
          refine lv_icmp_eq (tgt := 109) hx hb dX5_number_92 (by decide) (fun c_4 => ?_) (fun c_4 => ?_)
          · skip
            refine lv_iconst (v := 1) hx hb dX5_number_109 (by decide) ?_
            refine lv_goto (tgt := 114) hx hb dX5_number_110 (by decide) ?_
            refine lv_istore (lv' := [(5, .int 1), (0, .ref (a 0)), (1, .int lo), (2, .int hi), (3, .int (nI c)), (4, .int v)]) hx hb dX5_number_114 hl (by decide) rfl (fun ls hl => ?_)
            refine lv_iload hx hb dX5_number_116 (lv_at hl 0 rfl) ?_
            refine lv_if_eq (tgt := 131) hx hb dX5_number_118 (by decide) (fun c_5 => False.elim (by revert c_5; decide)) (fun c_5 => ?_)
            refine lv_iload hx hb dX5_number_121 (lv_at hl 5 rfl) ?_
            refine lv_iload_n hx hb dX5_number_123 rfl (lv_at hl 2 rfl) ?_
            refine lv_iload_n hx hb dX5_number_124 rfl (lv_at hl 3 rfl) ?_
            refine g_rdS (As := [.int v, .int lo, .int hi]) (rest := []) (nL := 6) hx hb hml hown hts (c_X5_in lz G v lo hi) gX5_number_X5_in rfl h_X5_in ⟨Nat.le_of_ble_eq_true rfl, Nat.le_of_ble_eq_true rfl⟩ hK gP_nil rfl hl.1 rfl (Nat.le_of_ble_eq_true rfl) ⟨Nat.le_refl _, Nat.le_refl _⟩ dX5_number_125 ?_
            refine lv_if_ne (tgt := 141) hx hb dX5_number_128 (by decide) (fun c_6 => ?_) (fun c_6 => ?_)
            · skip
              have c_6 := bI_1 c_6
              refine lv_aload_n hx hb dX5_number_141 rfl (lv_at hl 1 rfl) ?_
              refine lv_dup hx hb dX5_number_142 rfl ?_
              refine va_get (D := G.1) (ci := 5) (v := .int t2.pos) (C := RX5) (T := TX5) (N := 21) hx hb hts i_X5_number_X5 hown hK.1 hP 0 rfl rfl 13 (by decide) f46 (fun _ h9 => h9) rfl dX5_number_143 ?_
              refine lv_iload_n hx hb dX5_number_146 rfl (lv_at hl 4 rfl) ?_
              refine lv_iadd hx hb dX5_number_147 ?_
              obtain ⟨w7, hw7⟩ : ∃ w : Int32, w = t2.pos + (nI c) := ⟨_, rfl⟩
              refine g_top (y := w7) hw7.symm ?_
              refine va_put (D := G.1) (ci := 5) (v := .int w7) (ty := .int) (C := RX5) (T := TX5) (N := 21) hx hb hts i_X5_number_X5 tyX5 tyX5_ok nmX5 hown hK.1 hP hD hS 0 rfl rfl 13 (by decide) f46 (fun _ h9 => h9) rfl (by decide +kernel) rfl rfl (Nat.le_of_ble_eq_true rfl) dX5_number_148 (fun H locs hP hD hS => ?_)
              obtain ⟨t8, ht8⟩ : ∃ u_ : MdS, u_ = mPos t2 w7 := ⟨_, rfl⟩
              have hP : va_P G.1 vwCl (wMd a G.2.1 G.2.2.1 t8) H := by
                rw [ht8]
                exact hP
              have hD : va_D A (wMd a G.2.1 G.2.2.1 t8) := by
                rw [ht8]
                exact hD
              refine lv_iload hx hb dX5_number_151 (lv_at hl 5 rfl) ?_
              have hcc : dNumC t2 = c := by
                rw [dNumC, hz, hq, nI_clamp (by omega), nI_clamp (by omega), dgC, hex]
                omega
              have hnu : dNumK t2 lo hi = true := by
                rw [dNumK, dNumV, hcc, hq, nI_clamp (by omega), ← hdv]
                simp [c_4, c_6]
              have hfin : dNum m lo hi = t8 := by
                rw [dNum_def, dNumD, if_pos c_1, ht2, hnu, if_pos rfl, hcc, ht8, hw7]
              have hP : va_P G.1 vwCl (wMd a G.2.1 G.2.2.1 (dNum m lo hi)) H := by
                rw [hfin]
                exact hP
              exact g_wi hx hb hr hlocks hAe hP hS dX5_number_153 (by rw [dNumR, if_pos c_1, ht2, hnu, if_pos rfl, dNumV, hcc, hq, nI_clamp (by omega), ← hdv])
            · skip
              have c_6 := bI_0 c_6
              refine lv_aload_n hx hb dX5_number_131 rfl (lv_at hl 1 rfl) ?_
              refine lv_aload_n hx hb dX5_number_132 rfl (lv_at hl 1 rfl) ?_
              refine va_get (D := G.1) (ci := 5) (v := .int t2.pos) (C := RX5) (T := TX5) (N := 21) hx hb hts i_X5_number_X5 hown hK.1 hP 0 rfl rfl 13 (by decide) f46 (fun _ h9 => h9) rfl dX5_number_133 ?_
              obtain ⟨w9, hw9⟩ : ∃ w : Int32, w = t2.pos := ⟨_, rfl⟩
              refine g_top (y := w9) hw9.symm ?_
              refine va_put (D := G.1) (ci := 5) (v := .int w9) (ty := .int) (C := RX5) (T := TX5) (N := 21) hx hb hts i_X5_number_X5 tyX5 tyX5_ok nmX5 hown hK.1 hP hD hS 0 rfl rfl 14 (by decide) f53 (fun _ h9 => h9) rfl (by decide +kernel) rfl rfl (Nat.le_of_ble_eq_true rfl) dX5_number_136 (fun H locs hP hD hS => ?_)
              obtain ⟨t10, ht10⟩ : ∃ u_ : MdS, u_ = mWr t2 w9 := ⟨_, rfl⟩
              have hP : va_P G.1 vwCl (wMd a G.2.1 G.2.2.1 t10) H := by
                rw [ht10]
                exact hP
              have hD : va_D A (wMd a G.2.1 G.2.2.1 t10) := by
                rw [ht10]
                exact hD
              have okt10 : dOK t10 := by
                rw [ht10]
                exact okt2
              refine lv_iconst (v := 0) hx hb dX5_number_139 (by decide) ?_
              have hcc : dNumC t2 = c := by
                rw [dNumC, hz, hq, nI_clamp (by omega), nI_clamp (by omega), dgC, hex]
                omega
              have hnu : dNumK t2 lo hi = false := by
                rw [dNumK, dNumV, hcc, hq, nI_clamp (by omega), ← hdv]
                simp [c_4, c_6]
              have hfin : dNum m lo hi = t10 := by
                rw [dNum_def, dNumD, if_pos c_1, ht2, hnu, if_neg (by decide), ht10, hw9]
              have hP : va_P G.1 vwCl (wMd a G.2.1 G.2.2.1 (dNum m lo hi)) H := by
                rw [hfin]
                exact hP
              exact g_wi hx hb hr hlocks hAe hP hS dX5_number_140 (by rw [dNumR, if_pos c_1, ht2, hnu, if_neg (by decide)])
          · skip
            refine lv_iload_n hx hb dX5_number_95 rfl (lv_at hl 3 rfl) ?_
            refine lv_iconst (v := 2) hx hb dX5_number_96 (by decide) ?_
            refine lv_icmp_ne (tgt := 113) hx hb dX5_number_97 (by decide) (fun c_11 => ?_) (fun c_11 => ?_)
            · skip
              refine lv_iconst (v := 0) hx hb dX5_number_113 (by decide) ?_
              refine lv_istore (lv' := [(5, .int 0), (0, .ref (a 0)), (1, .int lo), (2, .int hi), (3, .int (nI c)), (4, .int v)]) hx hb dX5_number_114 hl (by decide) rfl (fun ls hl => ?_)
              refine lv_iload hx hb dX5_number_116 (lv_at hl 0 rfl) ?_
              refine lv_if_eq (tgt := 131) hx hb dX5_number_118 (by decide) (fun c_12 => ?_) (fun c_12 => False.elim (by revert c_12; decide))
              refine lv_aload_n hx hb dX5_number_131 rfl (lv_at hl 1 rfl) ?_
              refine lv_aload_n hx hb dX5_number_132 rfl (lv_at hl 1 rfl) ?_
              refine va_get (D := G.1) (ci := 5) (v := .int t2.pos) (C := RX5) (T := TX5) (N := 21) hx hb hts i_X5_number_X5 hown hK.1 hP 0 rfl rfl 13 (by decide) f46 (fun _ h9 => h9) rfl dX5_number_133 ?_
              obtain ⟨w13, hw13⟩ : ∃ w : Int32, w = t2.pos := ⟨_, rfl⟩
              refine g_top (y := w13) hw13.symm ?_
              refine va_put (D := G.1) (ci := 5) (v := .int w13) (ty := .int) (C := RX5) (T := TX5) (N := 21) hx hb hts i_X5_number_X5 tyX5 tyX5_ok nmX5 hown hK.1 hP hD hS 0 rfl rfl 14 (by decide) f53 (fun _ h9 => h9) rfl (by decide +kernel) rfl rfl (Nat.le_of_ble_eq_true rfl) dX5_number_136 (fun H locs hP hD hS => ?_)
              obtain ⟨t14, ht14⟩ : ∃ u_ : MdS, u_ = mWr t2 w13 := ⟨_, rfl⟩
              have hP : va_P G.1 vwCl (wMd a G.2.1 G.2.2.1 t14) H := by
                rw [ht14]
                exact hP
              have hD : va_D A (wMd a G.2.1 G.2.2.1 t14) := by
                rw [ht14]
                exact hD
              have okt14 : dOK t14 := by
                rw [ht14]
                exact okt2
              refine lv_iconst (v := 0) hx hb dX5_number_139 (by decide) ?_
              have hcc : dNumC t2 = c := by
                rw [dNumC, hz, hq, nI_clamp (by omega), nI_clamp (by omega), dgC, hex]
                omega
              have hnu : dNumK t2 lo hi = false := by
                rw [dNumK, dNumV, hcc, hq, nI_clamp (by omega), ← hdv]
                simp [c_4, c_11]
              have hfin : dNum m lo hi = t14 := by
                rw [dNum_def, dNumD, if_pos c_1, ht2, hnu, if_neg (by decide), ht14, hw13]
              have hP : va_P G.1 vwCl (wMd a G.2.1 G.2.2.1 (dNum m lo hi)) H := by
                rw [hfin]
                exact hP
              exact g_wi hx hb hr hlocks hAe hP hS dX5_number_140 (by rw [dNumR, if_pos c_1, ht2, hnu, if_neg (by decide)])
            · skip
              have hc2 : c = 2 := (nI_eq (by omega) (by decide)).mp c_11
              refine lv_aload_n hx hb dX5_number_100 rfl (lv_at hl 0 rfl) ?_
              refine g_rdV (As := []) (rest := []) (nL := 6) hx hb hml hown hts (c_X5_here lz G a t2 okt2) gX5_number_X5_here rfl h_X5_here ⟨Nat.le_of_ble_eq_true rfl, Nat.le_of_ble_eq_true rfl⟩ hK hP (ci := 5) rfl rfl rfl rfl hl.1 rfl (Nat.le_of_ble_eq_true rfl) ⟨Nat.le_refl _, Nat.le_refl _⟩ dX5_number_101 ?_
              refine g_top (y := t2.text q) (by rw [dHere, if_pos (by rw [hq, hz]; exact (nI_ltI (by omega) (by omega)).mpr (by omega)), hq, nI_clamp (by omega)]) ?_
              refine lv_bipush (v := 48) hx hb dX5_number_104 (by decide) ?_
              refine lv_icmp_eq (tgt := 113) hx hb dX5_number_106 (by decide) (fun c_15 => ?_) (fun c_15 => ?_)
              · skip
                refine lv_iconst (v := 0) hx hb dX5_number_113 (by decide) ?_
                refine lv_istore (lv' := [(5, .int 0), (0, .ref (a 0)), (1, .int lo), (2, .int hi), (3, .int (nI c)), (4, .int v)]) hx hb dX5_number_114 hl (by decide) rfl (fun ls hl => ?_)
                refine lv_iload hx hb dX5_number_116 (lv_at hl 0 rfl) ?_
                refine lv_if_eq (tgt := 131) hx hb dX5_number_118 (by decide) (fun c_16 => ?_) (fun c_16 => False.elim (by revert c_16; decide))
                refine lv_aload_n hx hb dX5_number_131 rfl (lv_at hl 1 rfl) ?_
                refine lv_aload_n hx hb dX5_number_132 rfl (lv_at hl 1 rfl) ?_
                refine va_get (D := G.1) (ci := 5) (v := .int t2.pos) (C := RX5) (T := TX5) (N := 21) hx hb hts i_X5_number_X5 hown hK.1 hP 0 rfl rfl 13 (by decide) f46 (fun _ h9 => h9) rfl dX5_number_133 ?_
                obtain ⟨w17, hw17⟩ : ∃ w : Int32, w = t2.pos := ⟨_, rfl⟩
                refine g_top (y := w17) hw17.symm ?_
                refine va_put (D := G.1) (ci := 5) (v := .int w17) (ty := .int) (C := RX5) (T := TX5) (N := 21) hx hb hts i_X5_number_X5 tyX5 tyX5_ok nmX5 hown hK.1 hP hD hS 0 rfl rfl 14 (by decide) f53 (fun _ h9 => h9) rfl (by decide +kernel) rfl rfl (Nat.le_of_ble_eq_true rfl) dX5_number_136 (fun H locs hP hD hS => ?_)
                obtain ⟨t18, ht18⟩ : ∃ u_ : MdS, u_ = mWr t2 w17 := ⟨_, rfl⟩
                have hP : va_P G.1 vwCl (wMd a G.2.1 G.2.2.1 t18) H := by
                  rw [ht18]
                  exact hP
                have hD : va_D A (wMd a G.2.1 G.2.2.1 t18) := by
                  rw [ht18]
                  exact hD
                have okt18 : dOK t18 := by
                  rw [ht18]
                  exact okt2
                refine lv_iconst (v := 0) hx hb dX5_number_139 (by decide) ?_
                have hcc : dNumC t2 = c := by
                  rw [dNumC, hz, hq, nI_clamp (by omega), nI_clamp (by omega), dgC, hex]
                  omega
                have hnu : dNumK t2 lo hi = false := by
                  rw [dNumK, dNumV, hcc, hq, nI_clamp (by omega), ← hdv]
                  simp [c_4, c_11, c_15]
                have hfin : dNum m lo hi = t18 := by
                  rw [dNum_def, dNumD, if_pos c_1, ht2, hnu, if_neg (by decide), ht18, hw17]
                have hP : va_P G.1 vwCl (wMd a G.2.1 G.2.2.1 (dNum m lo hi)) H := by
                  rw [hfin]
                  exact hP
                exact g_wi hx hb hr hlocks hAe hP hS dX5_number_140 (by rw [dNumR, if_pos c_1, ht2, hnu, if_neg (by decide)])
              · skip
                refine lv_iconst (v := 1) hx hb dX5_number_109 (by decide) ?_
                refine lv_goto (tgt := 114) hx hb dX5_number_110 (by decide) ?_
                refine lv_istore (lv' := [(5, .int 1), (0, .ref (a 0)), (1, .int lo), (2, .int hi), (3, .int (nI c)), (4, .int v)]) hx hb dX5_number_114 hl (by decide) rfl (fun ls hl => ?_)
                refine lv_iload hx hb dX5_number_116 (lv_at hl 0 rfl) ?_
                refine lv_if_eq (tgt := 131) hx hb dX5_number_118 (by decide) (fun c_19 => False.elim (by revert c_19; decide)) (fun c_19 => ?_)
                refine lv_iload hx hb dX5_number_121 (lv_at hl 5 rfl) ?_
                refine lv_iload_n hx hb dX5_number_123 rfl (lv_at hl 2 rfl) ?_
                refine lv_iload_n hx hb dX5_number_124 rfl (lv_at hl 3 rfl) ?_
                refine g_rdS (As := [.int v, .int lo, .int hi]) (rest := []) (nL := 6) hx hb hml hown hts (c_X5_in lz G v lo hi) gX5_number_X5_in rfl h_X5_in ⟨Nat.le_of_ble_eq_true rfl, Nat.le_of_ble_eq_true rfl⟩ hK gP_nil rfl hl.1 rfl (Nat.le_of_ble_eq_true rfl) ⟨Nat.le_refl _, Nat.le_refl _⟩ dX5_number_125 ?_
                refine lv_if_ne (tgt := 141) hx hb dX5_number_128 (by decide) (fun c_20 => ?_) (fun c_20 => ?_)
                · skip
                  have c_20 := bI_1 c_20
                  refine lv_aload_n hx hb dX5_number_141 rfl (lv_at hl 1 rfl) ?_
                  refine lv_dup hx hb dX5_number_142 rfl ?_
                  refine va_get (D := G.1) (ci := 5) (v := .int t2.pos) (C := RX5) (T := TX5) (N := 21) hx hb hts i_X5_number_X5 hown hK.1 hP 0 rfl rfl 13 (by decide) f46 (fun _ h9 => h9) rfl dX5_number_143 ?_
                  refine lv_iload_n hx hb dX5_number_146 rfl (lv_at hl 4 rfl) ?_
                  refine lv_iadd hx hb dX5_number_147 ?_
                  obtain ⟨w21, hw21⟩ : ∃ w : Int32, w = t2.pos + (nI c) := ⟨_, rfl⟩
                  refine g_top (y := w21) hw21.symm ?_
                  refine va_put (D := G.1) (ci := 5) (v := .int w21) (ty := .int) (C := RX5) (T := TX5) (N := 21) hx hb hts i_X5_number_X5 tyX5 tyX5_ok nmX5 hown hK.1 hP hD hS 0 rfl rfl 13 (by decide) f46 (fun _ h9 => h9) rfl (by decide +kernel) rfl rfl (Nat.le_of_ble_eq_true rfl) dX5_number_148 (fun H locs hP hD hS => ?_)
                  obtain ⟨t22, ht22⟩ : ∃ u_ : MdS, u_ = mPos t2 w21 := ⟨_, rfl⟩
                  have hP : va_P G.1 vwCl (wMd a G.2.1 G.2.2.1 t22) H := by
                    rw [ht22]
                    exact hP
                  have hD : va_D A (wMd a G.2.1 G.2.2.1 t22) := by
                    rw [ht22]
                    exact hD
                  refine lv_iload hx hb dX5_number_151 (lv_at hl 5 rfl) ?_
                  have hcc : dNumC t2 = c := by
                    rw [dNumC, hz, hq, nI_clamp (by omega), nI_clamp (by omega), dgC, hex]
                    omega
                  have hnu : dNumK t2 lo hi = true := by
                    rw [dNumK, dNumV, hcc, hq, nI_clamp (by omega), ← hdv]
                    simp [c_4, c_11, c_15, c_20]
                  have hfin : dNum m lo hi = t22 := by
                    rw [dNum_def, dNumD, if_pos c_1, ht2, hnu, if_pos rfl, hcc, ht22, hw21]
                  have hP : va_P G.1 vwCl (wMd a G.2.1 G.2.2.1 (dNum m lo hi)) H := by
                    rw [hfin]
                    exact hP
                  exact g_wi hx hb hr hlocks hAe hP hS dX5_number_153 (by rw [dNumR, if_pos c_1, ht2, hnu, if_pos rfl, dNumV, hcc, hq, nI_clamp (by omega), ← hdv])
                · skip
                  have c_20 := bI_0 c_20
                  refine lv_aload_n hx hb dX5_number_131 rfl (lv_at hl 1 rfl) ?_
                  refine lv_aload_n hx hb dX5_number_132 rfl (lv_at hl 1 rfl) ?_
                  refine va_get (D := G.1) (ci := 5) (v := .int t2.pos) (C := RX5) (T := TX5) (N := 21) hx hb hts i_X5_number_X5 hown hK.1 hP 0 rfl rfl 13 (by decide) f46 (fun _ h9 => h9) rfl dX5_number_133 ?_
                  obtain ⟨w23, hw23⟩ : ∃ w : Int32, w = t2.pos := ⟨_, rfl⟩
                  refine g_top (y := w23) hw23.symm ?_
                  refine va_put (D := G.1) (ci := 5) (v := .int w23) (ty := .int) (C := RX5) (T := TX5) (N := 21) hx hb hts i_X5_number_X5 tyX5 tyX5_ok nmX5 hown hK.1 hP hD hS 0 rfl rfl 14 (by decide) f53 (fun _ h9 => h9) rfl (by decide +kernel) rfl rfl (Nat.le_of_ble_eq_true rfl) dX5_number_136 (fun H locs hP hD hS => ?_)
                  obtain ⟨t24, ht24⟩ : ∃ u_ : MdS, u_ = mWr t2 w23 := ⟨_, rfl⟩
                  have hP : va_P G.1 vwCl (wMd a G.2.1 G.2.2.1 t24) H := by
                    rw [ht24]
                    exact hP
                  have hD : va_D A (wMd a G.2.1 G.2.2.1 t24) := by
                    rw [ht24]
                    exact hD
                  have okt24 : dOK t24 := by
                    rw [ht24]
                    exact okt2
                  refine lv_iconst (v := 0) hx hb dX5_number_139 (by decide) ?_
                  have hcc : dNumC t2 = c := by
                    rw [dNumC, hz, hq, nI_clamp (by omega), nI_clamp (by omega), dgC, hex]
                    omega
                  have hnu : dNumK t2 lo hi = false := by
                    rw [dNumK, dNumV, hcc, hq, nI_clamp (by omega), ← hdv]
                    simp [c_4, c_11, c_15, c_20]
                  have hfin : dNum m lo hi = t24 := by
                    rw [dNum_def, dNumD, if_pos c_1, ht2, hnu, if_neg (by decide), ht24, hw23]
                  have hP : va_P G.1 vwCl (wMd a G.2.1 G.2.2.1 (dNum m lo hi)) H := by
                    rw [hfin]
                    exact hP
                  exact g_wi hx hb hr hlocks hAe hP hS dX5_number_140 (by rw [dNumR, if_pos c_1, ht2, hnu, if_neg (by decide)])
        · skip
          have c_3 := gl_nle c_3
          have hlt : q + c < Z := gl_in hz (by omega) (by omega) c_3
          refine lv_aload_n hx hb dX5_number_31 rfl (lv_at hl 0 rfl) ?_
          refine va_get (D := G.1) (ci := 5) (v := .ref (a 1)) (C := RX5) (T := TX5) (N := 21) hx hb hts i_X5_number_X5 hown hK.1 hP 0 rfl rfl 0 (by decide) f7 (fun _ h9 => h9) rfl dX5_number_32 ?_
          refine lv_aload_n hx hb dX5_number_35 rfl (lv_at hl 0 rfl) ?_
          refine va_get (D := G.1) (ci := 5) (v := .int t2.pos) (C := RX5) (T := TX5) (N := 21) hx hb hts i_X5_number_X5 hown hK.1 hP 0 rfl rfl 13 (by decide) f46 (fun _ h9 => h9) rfl dX5_number_36 ?_
          refine lv_iload_n hx hb dX5_number_39 rfl (lv_at hl 3 rfl) ?_
          refine lv_iadd hx hb dX5_number_40 ?_
          refine g_top (y := nI (q + c)) ((by rw [hq]; exact nI_add q c)) ?_
          refine g_iald hx hb hK.1 hP 1 0 rfl rfl (i := (q + c)) (by omega) (by decide) dX5_number_41 ?_
          refine lv_bipush (v := 48) hx hb dX5_number_42 (by decide) ?_
          refine lv_bipush (v := 57) hx hb dX5_number_44 (by decide) ?_
          refine g_rdS (As := [.int (t2.text (q + c)), .int 48, .int 57]) (rest := []) (nL := 6) hx hb hml hown hts (c_X5_in lz G (t2.text (q + c)) 48 57) gX5_number_X5_in rfl h_X5_in ⟨Nat.le_of_ble_eq_true rfl, Nat.le_of_ble_eq_true rfl⟩ hK gP_nil rfl hl.1 rfl (Nat.le_of_ble_eq_true rfl) ⟨Nat.le_refl _, Nat.le_refl _⟩ dX5_number_46 ?_
          refine lv_if_eq (tgt := 90) hx hb dX5_number_49 (by decide) (fun c_25 => ?_) (fun c_25 => ?_)
          · skip
            have c_25 := bI_0 c_25
            have hex : runD t2.text Z (Z - q) q = q + c := hru.trans (runD_n hlt c_25)
            refine lv_iload_n hx hb dX5_number_90 rfl (lv_at hl 3 rfl) ?_
            refine lv_iconst (v := 1) hx hb dX5_number_91 (by decide) ?_
            refine lv_icmp_eq (tgt := 109) hx hb dX5_number_92 (by decide) (fun c_26 => ?_) (fun c_26 => ?_)
            · skip
              refine lv_iconst (v := 1) hx hb dX5_number_109 (by decide) ?_
              refine lv_goto (tgt := 114) hx hb dX5_number_110 (by decide) ?_
              refine lv_istore (lv' := [(5, .int 1), (0, .ref (a 0)), (1, .int lo), (2, .int hi), (3, .int (nI c)), (4, .int v)]) hx hb dX5_number_114 hl (by decide) rfl (fun ls hl => ?_)
              refine lv_iload hx hb dX5_number_116 (lv_at hl 0 rfl) ?_
              refine lv_if_eq (tgt := 131) hx hb dX5_number_118 (by decide) (fun c_27 => False.elim (by revert c_27; decide)) (fun c_27 => ?_)
              refine lv_iload hx hb dX5_number_121 (lv_at hl 5 rfl) ?_
              refine lv_iload_n hx hb dX5_number_123 rfl (lv_at hl 2 rfl) ?_
              refine lv_iload_n hx hb dX5_number_124 rfl (lv_at hl 3 rfl) ?_
              refine g_rdS (As := [.int v, .int lo, .int hi]) (rest := []) (nL := 6) hx hb hml hown hts (c_X5_in lz G v lo hi) gX5_number_X5_in rfl h_X5_in ⟨Nat.le_of_ble_eq_true rfl, Nat.le_of_ble_eq_true rfl⟩ hK gP_nil rfl hl.1 rfl (Nat.le_of_ble_eq_true rfl) ⟨Nat.le_refl _, Nat.le_refl _⟩ dX5_number_125 ?_
              refine lv_if_ne (tgt := 141) hx hb dX5_number_128 (by decide) (fun c_28 => ?_) (fun c_28 => ?_)
              · skip
                have c_28 := bI_1 c_28
                refine lv_aload_n hx hb dX5_number_141 rfl (lv_at hl 1 rfl) ?_
                refine lv_dup hx hb dX5_number_142 rfl ?_
                refine va_get (D := G.1) (ci := 5) (v := .int t2.pos) (C := RX5) (T := TX5) (N := 21) hx hb hts i_X5_number_X5 hown hK.1 hP 0 rfl rfl 13 (by decide) f46 (fun _ h9 => h9) rfl dX5_number_143 ?_
                refine lv_iload_n hx hb dX5_number_146 rfl (lv_at hl 4 rfl) ?_
                refine lv_iadd hx hb dX5_number_147 ?_
                obtain ⟨w29, hw29⟩ : ∃ w : Int32, w = t2.pos + (nI c) := ⟨_, rfl⟩
                refine g_top (y := w29) hw29.symm ?_
                refine va_put (D := G.1) (ci := 5) (v := .int w29) (ty := .int) (C := RX5) (T := TX5) (N := 21) hx hb hts i_X5_number_X5 tyX5 tyX5_ok nmX5 hown hK.1 hP hD hS 0 rfl rfl 13 (by decide) f46 (fun _ h9 => h9) rfl (by decide +kernel) rfl rfl (Nat.le_of_ble_eq_true rfl) dX5_number_148 (fun H locs hP hD hS => ?_)
                obtain ⟨t30, ht30⟩ : ∃ u_ : MdS, u_ = mPos t2 w29 := ⟨_, rfl⟩
                have hP : va_P G.1 vwCl (wMd a G.2.1 G.2.2.1 t30) H := by
                  rw [ht30]
                  exact hP
                have hD : va_D A (wMd a G.2.1 G.2.2.1 t30) := by
                  rw [ht30]
                  exact hD
                refine lv_iload hx hb dX5_number_151 (lv_at hl 5 rfl) ?_
                have hcc : dNumC t2 = c := by
                  rw [dNumC, hz, hq, nI_clamp (by omega), nI_clamp (by omega), dgC, hex]
                  omega
                have hnu : dNumK t2 lo hi = true := by
                  rw [dNumK, dNumV, hcc, hq, nI_clamp (by omega), ← hdv]
                  simp [c_26, c_28]
                have hfin : dNum m lo hi = t30 := by
                  rw [dNum_def, dNumD, if_pos c_1, ht2, hnu, if_pos rfl, hcc, ht30, hw29]
                have hP : va_P G.1 vwCl (wMd a G.2.1 G.2.2.1 (dNum m lo hi)) H := by
                  rw [hfin]
                  exact hP
                exact g_wi hx hb hr hlocks hAe hP hS dX5_number_153 (by rw [dNumR, if_pos c_1, ht2, hnu, if_pos rfl, dNumV, hcc, hq, nI_clamp (by omega), ← hdv])
              · skip
                have c_28 := bI_0 c_28
                refine lv_aload_n hx hb dX5_number_131 rfl (lv_at hl 1 rfl) ?_
                refine lv_aload_n hx hb dX5_number_132 rfl (lv_at hl 1 rfl) ?_
                refine va_get (D := G.1) (ci := 5) (v := .int t2.pos) (C := RX5) (T := TX5) (N := 21) hx hb hts i_X5_number_X5 hown hK.1 hP 0 rfl rfl 13 (by decide) f46 (fun _ h9 => h9) rfl dX5_number_133 ?_
                obtain ⟨w31, hw31⟩ : ∃ w : Int32, w = t2.pos := ⟨_, rfl⟩
                refine g_top (y := w31) hw31.symm ?_
                refine va_put (D := G.1) (ci := 5) (v := .int w31) (ty := .int) (C := RX5) (T := TX5) (N := 21) hx hb hts i_X5_number_X5 tyX5 tyX5_ok nmX5 hown hK.1 hP hD hS 0 rfl rfl 14 (by decide) f53 (fun _ h9 => h9) rfl (by decide +kernel) rfl rfl (Nat.le_of_ble_eq_true rfl) dX5_number_136 (fun H locs hP hD hS => ?_)
                obtain ⟨t32, ht32⟩ : ∃ u_ : MdS, u_ = mWr t2 w31 := ⟨_, rfl⟩
                have hP : va_P G.1 vwCl (wMd a G.2.1 G.2.2.1 t32) H := by
                  rw [ht32]
                  exact hP
                have hD : va_D A (wMd a G.2.1 G.2.2.1 t32) := by
                  rw [ht32]
                  exact hD
                have okt32 : dOK t32 := by
                  rw [ht32]
                  exact okt2
                refine lv_iconst (v := 0) hx hb dX5_number_139 (by decide) ?_
                have hcc : dNumC t2 = c := by
                  rw [dNumC, hz, hq, nI_clamp (by omega), nI_clamp (by omega), dgC, hex]
                  omega
                have hnu : dNumK t2 lo hi = false := by
                  rw [dNumK, dNumV, hcc, hq, nI_clamp (by omega), ← hdv]
                  simp [c_26, c_28]
                have hfin : dNum m lo hi = t32 := by
                  rw [dNum_def, dNumD, if_pos c_1, ht2, hnu, if_neg (by decide), ht32, hw31]
                have hP : va_P G.1 vwCl (wMd a G.2.1 G.2.2.1 (dNum m lo hi)) H := by
                  rw [hfin]
                  exact hP
                exact g_wi hx hb hr hlocks hAe hP hS dX5_number_140 (by rw [dNumR, if_pos c_1, ht2, hnu, if_neg (by decide)])
            · skip
              refine lv_iload_n hx hb dX5_number_95 rfl (lv_at hl 3 rfl) ?_
              refine lv_iconst (v := 2) hx hb dX5_number_96 (by decide) ?_
              refine lv_icmp_ne (tgt := 113) hx hb dX5_number_97 (by decide) (fun c_33 => ?_) (fun c_33 => ?_)
              · skip
                refine lv_iconst (v := 0) hx hb dX5_number_113 (by decide) ?_
                refine lv_istore (lv' := [(5, .int 0), (0, .ref (a 0)), (1, .int lo), (2, .int hi), (3, .int (nI c)), (4, .int v)]) hx hb dX5_number_114 hl (by decide) rfl (fun ls hl => ?_)
                refine lv_iload hx hb dX5_number_116 (lv_at hl 0 rfl) ?_
                refine lv_if_eq (tgt := 131) hx hb dX5_number_118 (by decide) (fun c_34 => ?_) (fun c_34 => False.elim (by revert c_34; decide))
                refine lv_aload_n hx hb dX5_number_131 rfl (lv_at hl 1 rfl) ?_
                refine lv_aload_n hx hb dX5_number_132 rfl (lv_at hl 1 rfl) ?_
                refine va_get (D := G.1) (ci := 5) (v := .int t2.pos) (C := RX5) (T := TX5) (N := 21) hx hb hts i_X5_number_X5 hown hK.1 hP 0 rfl rfl 13 (by decide) f46 (fun _ h9 => h9) rfl dX5_number_133 ?_
                obtain ⟨w35, hw35⟩ : ∃ w : Int32, w = t2.pos := ⟨_, rfl⟩
                refine g_top (y := w35) hw35.symm ?_
                refine va_put (D := G.1) (ci := 5) (v := .int w35) (ty := .int) (C := RX5) (T := TX5) (N := 21) hx hb hts i_X5_number_X5 tyX5 tyX5_ok nmX5 hown hK.1 hP hD hS 0 rfl rfl 14 (by decide) f53 (fun _ h9 => h9) rfl (by decide +kernel) rfl rfl (Nat.le_of_ble_eq_true rfl) dX5_number_136 (fun H locs hP hD hS => ?_)
                obtain ⟨t36, ht36⟩ : ∃ u_ : MdS, u_ = mWr t2 w35 := ⟨_, rfl⟩
                have hP : va_P G.1 vwCl (wMd a G.2.1 G.2.2.1 t36) H := by
                  rw [ht36]
                  exact hP
                have hD : va_D A (wMd a G.2.1 G.2.2.1 t36) := by
                  rw [ht36]
                  exact hD
                have okt36 : dOK t36 := by
                  rw [ht36]
                  exact okt2
                refine lv_iconst (v := 0) hx hb dX5_number_139 (by decide) ?_
                have hcc : dNumC t2 = c := by
                  rw [dNumC, hz, hq, nI_clamp (by omega), nI_clamp (by omega), dgC, hex]
                  omega
                have hnu : dNumK t2 lo hi = false := by
                  rw [dNumK, dNumV, hcc, hq, nI_clamp (by omega), ← hdv]
                  simp [c_26, c_33]
                have hfin : dNum m lo hi = t36 := by
                  rw [dNum_def, dNumD, if_pos c_1, ht2, hnu, if_neg (by decide), ht36, hw35]
                have hP : va_P G.1 vwCl (wMd a G.2.1 G.2.2.1 (dNum m lo hi)) H := by
                  rw [hfin]
                  exact hP
                exact g_wi hx hb hr hlocks hAe hP hS dX5_number_140 (by rw [dNumR, if_pos c_1, ht2, hnu, if_neg (by decide)])
              · skip
                have hc2 : c = 2 := (nI_eq (by omega) (by decide)).mp c_33
                refine lv_aload_n hx hb dX5_number_100 rfl (lv_at hl 0 rfl) ?_
                refine g_rdV (As := []) (rest := []) (nL := 6) hx hb hml hown hts (c_X5_here lz G a t2 okt2) gX5_number_X5_here rfl h_X5_here ⟨Nat.le_of_ble_eq_true rfl, Nat.le_of_ble_eq_true rfl⟩ hK hP (ci := 5) rfl rfl rfl rfl hl.1 rfl (Nat.le_of_ble_eq_true rfl) ⟨Nat.le_refl _, Nat.le_refl _⟩ dX5_number_101 ?_
                refine g_top (y := t2.text q) (by rw [dHere, if_pos (by rw [hq, hz]; exact (nI_ltI (by omega) (by omega)).mpr (by omega)), hq, nI_clamp (by omega)]) ?_
                refine lv_bipush (v := 48) hx hb dX5_number_104 (by decide) ?_
                refine lv_icmp_eq (tgt := 113) hx hb dX5_number_106 (by decide) (fun c_37 => ?_) (fun c_37 => ?_)
                · skip
                  refine lv_iconst (v := 0) hx hb dX5_number_113 (by decide) ?_
                  refine lv_istore (lv' := [(5, .int 0), (0, .ref (a 0)), (1, .int lo), (2, .int hi), (3, .int (nI c)), (4, .int v)]) hx hb dX5_number_114 hl (by decide) rfl (fun ls hl => ?_)
                  refine lv_iload hx hb dX5_number_116 (lv_at hl 0 rfl) ?_
                  refine lv_if_eq (tgt := 131) hx hb dX5_number_118 (by decide) (fun c_38 => ?_) (fun c_38 => False.elim (by revert c_38; decide))
                  refine lv_aload_n hx hb dX5_number_131 rfl (lv_at hl 1 rfl) ?_
                  refine lv_aload_n hx hb dX5_number_132 rfl (lv_at hl 1 rfl) ?_
                  refine va_get (D := G.1) (ci := 5) (v := .int t2.pos) (C := RX5) (T := TX5) (N := 21) hx hb hts i_X5_number_X5 hown hK.1 hP 0 rfl rfl 13 (by decide) f46 (fun _ h9 => h9) rfl dX5_number_133 ?_
                  obtain ⟨w39, hw39⟩ : ∃ w : Int32, w = t2.pos := ⟨_, rfl⟩
                  refine g_top (y := w39) hw39.symm ?_
                  refine va_put (D := G.1) (ci := 5) (v := .int w39) (ty := .int) (C := RX5) (T := TX5) (N := 21) hx hb hts i_X5_number_X5 tyX5 tyX5_ok nmX5 hown hK.1 hP hD hS 0 rfl rfl 14 (by decide) f53 (fun _ h9 => h9) rfl (by decide +kernel) rfl rfl (Nat.le_of_ble_eq_true rfl) dX5_number_136 (fun H locs hP hD hS => ?_)
                  obtain ⟨t40, ht40⟩ : ∃ u_ : MdS, u_ = mWr t2 w39 := ⟨_, rfl⟩
                  have hP : va_P G.1 vwCl (wMd a G.2.1 G.2.2.1 t40) H := by
                    rw [ht40]
                    exact hP
                  have hD : va_D A (wMd a G.2.1 G.2.2.1 t40) := by
                    rw [ht40]
                    exact hD
                  have okt40 : dOK t40 := by
                    rw [ht40]
                    exact okt2
                  refine lv_iconst (v := 0) hx hb dX5_number_139 (by decide) ?_
                  have hcc : dNumC t2 = c := by
                    rw [dNumC, hz, hq, nI_clamp (by omega), nI_clamp (by omega), dgC, hex]
                    omega
                  have hnu : dNumK t2 lo hi = false := by
                    rw [dNumK, dNumV, hcc, hq, nI_clamp (by omega), ← hdv]
                    simp [c_26, c_33, c_37]
                  have hfin : dNum m lo hi = t40 := by
                    rw [dNum_def, dNumD, if_pos c_1, ht2, hnu, if_neg (by decide), ht40, hw39]
                  have hP : va_P G.1 vwCl (wMd a G.2.1 G.2.2.1 (dNum m lo hi)) H := by
                    rw [hfin]
                    exact hP
                  exact g_wi hx hb hr hlocks hAe hP hS dX5_number_140 (by rw [dNumR, if_pos c_1, ht2, hnu, if_neg (by decide)])
                · skip
                  refine lv_iconst (v := 1) hx hb dX5_number_109 (by decide) ?_
                  refine lv_goto (tgt := 114) hx hb dX5_number_110 (by decide) ?_
                  refine lv_istore (lv' := [(5, .int 1), (0, .ref (a 0)), (1, .int lo), (2, .int hi), (3, .int (nI c)), (4, .int v)]) hx hb dX5_number_114 hl (by decide) rfl (fun ls hl => ?_)
                  refine lv_iload hx hb dX5_number_116 (lv_at hl 0 rfl) ?_
                  refine lv_if_eq (tgt := 131) hx hb dX5_number_118 (by decide) (fun c_41 => False.elim (by revert c_41; decide)) (fun c_41 => ?_)
                  refine lv_iload hx hb dX5_number_121 (lv_at hl 5 rfl) ?_
                  refine lv_iload_n hx hb dX5_number_123 rfl (lv_at hl 2 rfl) ?_
                  refine lv_iload_n hx hb dX5_number_124 rfl (lv_at hl 3 rfl) ?_
                  refine g_rdS (As := [.int v, .int lo, .int hi]) (rest := []) (nL := 6) hx hb hml hown hts (c_X5_in lz G v lo hi) gX5_number_X5_in rfl h_X5_in ⟨Nat.le_of_ble_eq_true rfl, Nat.le_of_ble_eq_true rfl⟩ hK gP_nil rfl hl.1 rfl (Nat.le_of_ble_eq_true rfl) ⟨Nat.le_refl _, Nat.le_refl _⟩ dX5_number_125 ?_
                  refine lv_if_ne (tgt := 141) hx hb dX5_number_128 (by decide) (fun c_42 => ?_) (fun c_42 => ?_)
                  · skip
                    have c_42 := bI_1 c_42
                    refine lv_aload_n hx hb dX5_number_141 rfl (lv_at hl 1 rfl) ?_
                    refine lv_dup hx hb dX5_number_142 rfl ?_
                    refine va_get (D := G.1) (ci := 5) (v := .int t2.pos) (C := RX5) (T := TX5) (N := 21) hx hb hts i_X5_number_X5 hown hK.1 hP 0 rfl rfl 13 (by decide) f46 (fun _ h9 => h9) rfl dX5_number_143 ?_
                    refine lv_iload_n hx hb dX5_number_146 rfl (lv_at hl 4 rfl) ?_
                    refine lv_iadd hx hb dX5_number_147 ?_
                    obtain ⟨w43, hw43⟩ : ∃ w : Int32, w = t2.pos + (nI c) := ⟨_, rfl⟩
                    refine g_top (y := w43) hw43.symm ?_
                    refine va_put (D := G.1) (ci := 5) (v := .int w43) (ty := .int) (C := RX5) (T := TX5) (N := 21) hx hb hts i_X5_number_X5 tyX5 tyX5_ok nmX5 hown hK.1 hP hD hS 0 rfl rfl 13 (by decide) f46 (fun _ h9 => h9) rfl (by decide +kernel) rfl rfl (Nat.le_of_ble_eq_true rfl) dX5_number_148 (fun H locs hP hD hS => ?_)
                    obtain ⟨t44, ht44⟩ : ∃ u_ : MdS, u_ = mPos t2 w43 := ⟨_, rfl⟩
                    have hP : va_P G.1 vwCl (wMd a G.2.1 G.2.2.1 t44) H := by
                      rw [ht44]
                      exact hP
                    have hD : va_D A (wMd a G.2.1 G.2.2.1 t44) := by
                      rw [ht44]
                      exact hD
                    refine lv_iload hx hb dX5_number_151 (lv_at hl 5 rfl) ?_
                    have hcc : dNumC t2 = c := by
                      rw [dNumC, hz, hq, nI_clamp (by omega), nI_clamp (by omega), dgC, hex]
                      omega
                    have hnu : dNumK t2 lo hi = true := by
                      rw [dNumK, dNumV, hcc, hq, nI_clamp (by omega), ← hdv]
                      simp [c_26, c_33, c_37, c_42]
                    have hfin : dNum m lo hi = t44 := by
                      rw [dNum_def, dNumD, if_pos c_1, ht2, hnu, if_pos rfl, hcc, ht44, hw43]
                    have hP : va_P G.1 vwCl (wMd a G.2.1 G.2.2.1 (dNum m lo hi)) H := by
                      rw [hfin]
                      exact hP
                    exact g_wi hx hb hr hlocks hAe hP hS dX5_number_153 (by rw [dNumR, if_pos c_1, ht2, hnu, if_pos rfl, dNumV, hcc, hq, nI_clamp (by omega), ← hdv])
                  · skip
                    have c_42 := bI_0 c_42
                    refine lv_aload_n hx hb dX5_number_131 rfl (lv_at hl 1 rfl) ?_
                    refine lv_aload_n hx hb dX5_number_132 rfl (lv_at hl 1 rfl) ?_
                    refine va_get (D := G.1) (ci := 5) (v := .int t2.pos) (C := RX5) (T := TX5) (N := 21) hx hb hts i_X5_number_X5 hown hK.1 hP 0 rfl rfl 13 (by decide) f46 (fun _ h9 => h9) rfl dX5_number_133 ?_
                    obtain ⟨w45, hw45⟩ : ∃ w : Int32, w = t2.pos := ⟨_, rfl⟩
                    refine g_top (y := w45) hw45.symm ?_
                    refine va_put (D := G.1) (ci := 5) (v := .int w45) (ty := .int) (C := RX5) (T := TX5) (N := 21) hx hb hts i_X5_number_X5 tyX5 tyX5_ok nmX5 hown hK.1 hP hD hS 0 rfl rfl 14 (by decide) f53 (fun _ h9 => h9) rfl (by decide +kernel) rfl rfl (Nat.le_of_ble_eq_true rfl) dX5_number_136 (fun H locs hP hD hS => ?_)
                    obtain ⟨t46, ht46⟩ : ∃ u_ : MdS, u_ = mWr t2 w45 := ⟨_, rfl⟩
                    have hP : va_P G.1 vwCl (wMd a G.2.1 G.2.2.1 t46) H := by
                      rw [ht46]
                      exact hP
                    have hD : va_D A (wMd a G.2.1 G.2.2.1 t46) := by
                      rw [ht46]
                      exact hD
                    have okt46 : dOK t46 := by
                      rw [ht46]
                      exact okt2
                    refine lv_iconst (v := 0) hx hb dX5_number_139 (by decide) ?_
                    have hcc : dNumC t2 = c := by
                      rw [dNumC, hz, hq, nI_clamp (by omega), nI_clamp (by omega), dgC, hex]
                      omega
                    have hnu : dNumK t2 lo hi = false := by
                      rw [dNumK, dNumV, hcc, hq, nI_clamp (by omega), ← hdv]
                      simp [c_26, c_33, c_37, c_42]
                    have hfin : dNum m lo hi = t46 := by
                      rw [dNum_def, dNumD, if_pos c_1, ht2, hnu, if_neg (by decide), ht46, hw45]
                    have hP : va_P G.1 vwCl (wMd a G.2.1 G.2.2.1 (dNum m lo hi)) H := by
                      rw [hfin]
                      exact hP
                    exact g_wi hx hb hr hlocks hAe hP hS dX5_number_140 (by rw [dNumR, if_pos c_1, ht2, hnu, if_neg (by decide)])
          · skip
            have c_25 := bI_1 c_25
            refine lv_iload_n hx hb dX5_number_52 rfl (lv_at hl 3 rfl) ?_
            refine lv_iconst (v := 3) hx hb dX5_number_53 (by decide) ?_
            refine lv_icmp_ge (tgt := 80) hx hb dX5_number_54 (by decide) (fun c_47 => ?_) (fun c_47 => ?_)
            · skip
              have c_47 := gl_le c_47
              refine lv_iload hx hb dX5_number_80 (lv_at hl 4 rfl) ?_
              refine lv_istore (lv' := [(4, .int v), (0, .ref (a 0)), (1, .int lo), (2, .int hi), (3, .int (nI c))]) hx hb dX5_number_82 hl (by decide) rfl (fun ls hl => ?_)
              refine lv_iinc (v := nI (c + 1)) (lv' := [(3, .int (nI (c + 1))), (4, .int v), (0, .ref (a 0)), (1, .int lo), (2, .int hi)]) hx hb dX5_number_84 hl (k := 4) rfl (nI_1 c) (by decide) rfl (fun ls hl => ?_)
              refine lv_goto (tgt := 18) hx hb dX5_number_87 (by decide) ?_
              exact ih_18 (c + 1) v (by omega) (hru.trans (runD_y (by omega) c_25)) (by rw [dgV, ← hdv] <;> (first | rw [if_pos c_47] | rw [if_neg c_47])) (by omega) ls (lv_sub hl [2, 3, 4, 0, 1] rfl)
            · skip
              have c_47 := gl_nle c_47
              refine lv_bipush (v := 10) hx hb dX5_number_57 (by decide) ?_
              refine lv_iload hx hb dX5_number_59 (lv_at hl 4 rfl) ?_
              refine lv_imul hx hb dX5_number_61 ?_
              refine lv_aload_n hx hb dX5_number_62 rfl (lv_at hl 0 rfl) ?_
              refine va_get (D := G.1) (ci := 5) (v := .ref (a 1)) (C := RX5) (T := TX5) (N := 21) hx hb hts i_X5_number_X5 hown hK.1 hP 0 rfl rfl 0 (by decide) f7 (fun _ h9 => h9) rfl dX5_number_63 ?_
              refine lv_aload_n hx hb dX5_number_66 rfl (lv_at hl 0 rfl) ?_
              refine va_get (D := G.1) (ci := 5) (v := .int t2.pos) (C := RX5) (T := TX5) (N := 21) hx hb hts i_X5_number_X5 hown hK.1 hP 0 rfl rfl 13 (by decide) f46 (fun _ h9 => h9) rfl dX5_number_67 ?_
              refine lv_iload_n hx hb dX5_number_70 rfl (lv_at hl 3 rfl) ?_
              refine lv_iadd hx hb dX5_number_71 ?_
              refine g_top (y := nI (q + c)) ((by rw [hq]; exact nI_add q c)) ?_
              refine g_iald hx hb hK.1 hP 1 0 rfl rfl (i := (q + c)) (by omega) (by decide) dX5_number_72 ?_
              refine lv_iadd hx hb dX5_number_73 ?_
              refine lv_bipush (v := 48) hx hb dX5_number_74 (by decide) ?_
              refine lv_isub hx hb dX5_number_76 ?_
              refine lv_goto (tgt := 82) hx hb dX5_number_77 (by decide) ?_
              refine lv_istore (lv' := [(4, .int (((10 * v) + (t2.text (q + c))) - 48)), (0, .ref (a 0)), (1, .int lo), (2, .int hi), (3, .int (nI c))]) hx hb dX5_number_82 hl (by decide) rfl (fun ls hl => ?_)
              refine lv_iinc (v := nI (c + 1)) (lv' := [(3, .int (nI (c + 1))), (4, .int (((10 * v) + (t2.text (q + c))) - 48)), (0, .ref (a 0)), (1, .int lo), (2, .int hi)]) hx hb dX5_number_84 hl (k := 4) rfl (nI_1 c) (by decide) rfl (fun ls hl => ?_)
              refine lv_goto (tgt := 18) hx hb dX5_number_87 (by decide) ?_
              exact ih_18 (c + 1) (((10 * v) + (t2.text (q + c))) - 48) (by omega) (hru.trans (runD_y (by omega) c_25)) (by rw [dgV, ← hdv] <;> (first | rw [if_pos c_47] | rw [if_neg c_47])) (by omega) ls (lv_sub hl [2, 3, 4, 0, 1] rfl)
    exact lp_18 ((Z - (q + 0)) + 1) 0 0 (by omega) rfl rfl (Nat.lt_succ_self _) ls (lv_sub hl [2, 3, 4, 1, 0] rfl)
  · skip
    refine lv_iconst (v := 0) hx hb dX5_number_7 (by decide) ?_
    have hP : va_P G.1 vwCl (wMd a G.2.1 G.2.2.1 (dNum m lo hi)) sz.heap := by
      rw [dNum_def, dNumD, if_neg c_1]
      exact hP
    exact g_wi hx hb hr hlocks hAe hP hS dX5_number_8 (by rw [dNumR, if_neg c_1])
