theorem i_X5_gallery_X5 : ∀ w ∈ wsX50, w ∈ wsX5_gallery := by decide +kernel
theorem h_X5_gallery : yX5_gallery.cls = RX5 ∧ yX5_gallery.cls ≠ "java/lang/invoke/MethodHandle" ∧ yX5_gallery.cls ≠ "java/lang/invoke/VarHandle" ∧ (parseMethodDescriptor yX5_gallery.desc).map (fun d => d.parameters.length) = some 0 := by decide +kernel
set_option maxHeartbeats 4000000 in
set_option maxRecDepth 100000 in
theorem c_X5_gallery (lz : Launch) (G : gG) (a : Nat → Nat) (m : MdS) (Z : Nat) (hZ : Z ≤ 120) (hz : m.len = nI Z) : gWr lz yX5_gallery wsX5_gallery 5 G [.ref (a 0)] (wMd a G.2.1 G.2.2.1 m) (wMd a G.2.1 G.2.2.1 (dGalS m)) (some (.int (dGalR m))) := by
  refine g_wr (by decide) rfl (Nat.le_of_ble_eq_true rfl) ?_
  intro pz ez sz mz bz tz cz hx hb hr hml hown hts hlocks hK A hAe hP hD hS ls hl
  have hl : lv_has ls 2 [(0, .ref (a 0))] := hl
  have f13 := hts (.fieldLink RX5 13 "WhisperRingModel" "places" "I") (by decide +kernel)
  have f17 := hts (.fieldLink RX5 17 "WhisperRingModel" "loss" "I") (by decide +kernel)
  have f20 := hts (.fieldLink RX5 20 "WhisperRingModel" "st" "[I") (by decide +kernel)
  have f29 := hts (.fieldLink RX5 29 "WhisperRingModel" "isKept" "[Z") (by decide +kernel)
  have f36 := hts (.fieldLink RX5 36 "WhisperRingModel" "read" "[I") (by decide +kernel)
  have f43 := hts (.fieldLink RX5 43 "WhisperRingModel" "length" "I") (by decide +kernel)
  have f46 := hts (.fieldLink RX5 46 "WhisperRingModel" "at" "I") (by decide +kernel)
  have f53 := hts (.fieldLink RX5 53 "WhisperRingModel" "wrong" "I") (by decide +kernel)
  have f59 := hts (.fieldLink RX5 59 "WhisperRingModel" "items" "I") (by decide +kernel)
  have f62 := hts (.fieldLink RX5 62 "WhisperRingModel" "readPlaces" "I") (by decide +kernel)
  have f72 := hts (.fieldLink RX5 72 "WhisperRingModel" "saidLoss" "Z") (by decide +kernel)
  have f76 := hts (.fieldLink RX5 76 "WhisperRingModel" "readLoss" "I") (by decide +kernel)
  have f79 := hts (.fieldLink RX5 79 "WhisperRingModel" "readNiches" "I") (by decide +kernel)
  have f88 := hts (.fieldLink RX5 88 "WhisperRingModel" "niches" "I") (by decide +kernel)
  have f95 := hts (.fieldLink RX5 95 "WhisperRingModel" "undos" "I") (by decide +kernel)
  have f98 := hts (.fieldLink RX5 98 "WhisperRingModel" "heardMany" "I") (by decide +kernel)
  refine lv_aload_n hx hb dX5_gallery_0 rfl (lv_at hl 0 rfl) ?_
  refine lv_iconst (v := 0) hx hb dX5_gallery_1 (by decide) ?_
  obtain ⟨w1, hw1⟩ : ∃ w : Int32, w = 0 := ⟨_, rfl⟩
  refine g_top (y := w1) hw1.symm ?_
  refine va_put (D := G.1) (ci := 5) (v := .int w1) (ty := .int) (C := RX5) (T := TX5) (N := 21) hx hb hts i_X5_gallery_X5 tyX5 tyX5_ok nmX5 hown hK.1 hP hD hS 0 rfl rfl 13 (by decide) f46 (fun _ h9 => h9) rfl (by decide +kernel) rfl rfl (Nat.le_of_ble_eq_true rfl) dX5_gallery_2 (fun H locs hP hD hS => ?_)
  obtain ⟨t2, ht2⟩ : ∃ u_ : MdS, u_ = mPos m w1 := ⟨_, rfl⟩
  have hP : va_P G.1 vwCl (wMd a G.2.1 G.2.2.1 t2) H := by
    rw [ht2]
    exact hP
  have hD : va_D A (wMd a G.2.1 G.2.2.1 t2) := by
    rw [ht2]
    exact hD
  have okt2 : dOK t2 := by
    rw [ht2]
    exact dOK_pos (x := 0) hZ (Nat.zero_le _) hz hw1
  refine lv_aload_n hx hb dX5_gallery_5 rfl (lv_at hl 0 rfl) ?_
  refine lv_iconst (v := (-1)) hx hb dX5_gallery_6 (by decide) ?_
  obtain ⟨w3, hw3⟩ : ∃ w : Int32, w = (-1) := ⟨_, rfl⟩
  refine g_top (y := w3) hw3.symm ?_
  refine va_put (D := G.1) (ci := 5) (v := .int w3) (ty := .int) (C := RX5) (T := TX5) (N := 21) hx hb hts i_X5_gallery_X5 tyX5 tyX5_ok nmX5 hown hK.1 hP hD hS 0 rfl rfl 14 (by decide) f53 (fun _ h9 => h9) rfl (by decide +kernel) rfl rfl (Nat.le_of_ble_eq_true rfl) dX5_gallery_7 (fun H locs hP hD hS => ?_)
  obtain ⟨t4, ht4⟩ : ∃ u_ : MdS, u_ = mWr t2 w3 := ⟨_, rfl⟩
  have hP : va_P G.1 vwCl (wMd a G.2.1 G.2.2.1 t4) H := by
    rw [ht4]
    exact hP
  have hD : va_D A (wMd a G.2.1 G.2.2.1 t4) := by
    rw [ht4]
    exact hD
  have okt4 : dOK t4 := by
    rw [ht4]
    exact okt2
  refine lv_aload_n hx hb dX5_gallery_10 rfl (lv_at hl 0 rfl) ?_
  refine lv_iconst (v := 0) hx hb dX5_gallery_11 (by decide) ?_
  obtain ⟨w5, hw5⟩ : ∃ w : Int32, w = 0 := ⟨_, rfl⟩
  refine g_top (y := w5) hw5.symm ?_
  refine va_put (D := G.1) (ci := 5) (v := .int w5) (ty := .int) (C := RX5) (T := TX5) (N := 21) hx hb hts i_X5_gallery_X5 tyX5 tyX5_ok nmX5 hown hK.1 hP hD hS 0 rfl rfl 15 (by decide) f59 (fun _ h9 => h9) rfl (by decide +kernel) rfl rfl (Nat.le_of_ble_eq_true rfl) dX5_gallery_12 (fun H locs hP hD hS => ?_)
  obtain ⟨t6, ht6⟩ : ∃ u_ : MdS, u_ = mIt t4 w5 := ⟨_, rfl⟩
  have hP : va_P G.1 vwCl (wMd a G.2.1 G.2.2.1 t6) H := by
    rw [ht6]
    exact hP
  have hD : va_D A (wMd a G.2.1 G.2.2.1 t6) := by
    rw [ht6]
    exact hD
  have okt6 : dOK t6 := by
    rw [ht6]
    exact okt4
  refine lv_aload_n hx hb dX5_gallery_15 rfl (lv_at hl 0 rfl) ?_
  refine lv_bipush (v := 12) hx hb dX5_gallery_16 (by decide) ?_
  obtain ⟨w7, hw7⟩ : ∃ w : Int32, w = 12 := ⟨_, rfl⟩
  refine g_top (y := w7) hw7.symm ?_
  refine va_put (D := G.1) (ci := 5) (v := .int w7) (ty := .int) (C := RX5) (T := TX5) (N := 21) hx hb hts i_X5_gallery_X5 tyX5 tyX5_ok nmX5 hown hK.1 hP hD hS 0 rfl rfl 16 (by decide) f62 (fun _ h9 => h9) rfl (by decide +kernel) rfl rfl (Nat.le_of_ble_eq_true rfl) dX5_gallery_18 (fun H locs hP hD hS => ?_)
  obtain ⟨t8, ht8⟩ : ∃ u_ : MdS, u_ = mRp t6 w7 := ⟨_, rfl⟩
  have hP : va_P G.1 vwCl (wMd a G.2.1 G.2.2.1 t8) H := by
    rw [ht8]
    exact hP
  have hD : va_D A (wMd a G.2.1 G.2.2.1 t8) := by
    rw [ht8]
    exact hD
  have okt8 : dOK t8 := by
    rw [ht8]
    exact okt6
  refine lv_aload_n hx hb dX5_gallery_21 rfl (lv_at hl 0 rfl) ?_
  refine lv_iconst (v := 1) hx hb dX5_gallery_22 (by decide) ?_
  obtain ⟨w9, hw9⟩ : ∃ w : Int32, w = 1 := ⟨_, rfl⟩
  refine g_top (y := w9) hw9.symm ?_
  refine va_put (D := G.1) (ci := 5) (v := .int w9) (ty := .int) (C := RX5) (T := TX5) (N := 21) hx hb hts i_X5_gallery_X5 tyX5 tyX5_ok nmX5 hown hK.1 hP hD hS 0 rfl rfl 17 (by decide) f76 (fun _ h9 => h9) rfl (by decide +kernel) rfl rfl (Nat.le_of_ble_eq_true rfl) dX5_gallery_23 (fun H locs hP hD hS => ?_)
  obtain ⟨t10, ht10⟩ : ∃ u_ : MdS, u_ = mRl t8 w9 := ⟨_, rfl⟩
  have hP : va_P G.1 vwCl (wMd a G.2.1 G.2.2.1 t10) H := by
    rw [ht10]
    exact hP
  have hD : va_D A (wMd a G.2.1 G.2.2.1 t10) := by
    rw [ht10]
    exact hD
  have okt10 : dOK t10 := by
    rw [ht10]
    exact okt8
  refine lv_aload_n hx hb dX5_gallery_26 rfl (lv_at hl 0 rfl) ?_
  refine lv_iconst (v := 0) hx hb dX5_gallery_27 (by decide) ?_
  refine va_put (D := G.1) (ci := 5) (v := .int 0) (ty := .boolean) (C := RX5) (T := TX5) (N := 21) hx hb hts i_X5_gallery_X5 tyX5 tyX5_ok nmX5 hown hK.1 hP hD hS 0 rfl rfl 18 (by decide) f72 (fun _ h9 => h9) rfl (by decide +kernel) rfl rfl (Nat.le_of_ble_eq_true rfl) dX5_gallery_28 (fun H locs hP hD hS => ?_)
  obtain ⟨t11, ht11⟩ : ∃ u_ : MdS, u_ = mSl t10 0 := ⟨_, rfl⟩
  have hP : va_P G.1 vwCl (wMd a G.2.1 G.2.2.1 t11) H := by
    rw [ht11]
    exact hP
  have hD : va_D A (wMd a G.2.1 G.2.2.1 t11) := by
    rw [ht11]
    exact hD
  have okt11 : dOK t11 := by
    rw [ht11]
    exact okt10
  refine lv_aload_n hx hb dX5_gallery_31 rfl (lv_at hl 0 rfl) ?_
  refine lv_iconst (v := 0) hx hb dX5_gallery_32 (by decide) ?_
  obtain ⟨w12, hw12⟩ : ∃ w : Int32, w = 0 := ⟨_, rfl⟩
  refine g_top (y := w12) hw12.symm ?_
  refine va_put (D := G.1) (ci := 5) (v := .int w12) (ty := .int) (C := RX5) (T := TX5) (N := 21) hx hb hts i_X5_gallery_X5 tyX5 tyX5_ok nmX5 hown hK.1 hP hD hS 0 rfl rfl 19 (by decide) f79 (fun _ h9 => h9) rfl (by decide +kernel) rfl rfl (Nat.le_of_ble_eq_true rfl) dX5_gallery_33 (fun H locs hP hD hS => ?_)
  obtain ⟨t13, ht13⟩ : ∃ u_ : MdS, u_ = mRn t11 w12 := ⟨_, rfl⟩
  have hP : va_P G.1 vwCl (wMd a G.2.1 G.2.2.1 t13) H := by
    rw [ht13]
    exact hP
  have hD : va_D A (wMd a G.2.1 G.2.2.1 t13) := by
    rw [ht13]
    exact hD
  have okt13 : dOK t13 := by
    rw [ht13]
    exact okt11
  skip
  refine lv_iconst (v := 0) hx hb dX5_gallery_36 (by decide) ?_
  refine lv_istore_n (lv' := [(1, .int 0), (0, .ref (a 0))]) hx hb dX5_gallery_37 rfl hl (by decide) rfl (fun ls hl => ?_)
  have lp_38 : ∀ (fu_38 : Nat) (i : Nat) (t : MdS), (i ≤ 50) → (t = mRd t13 (lsF (fun _ => 0) t13.read i)) → 50 - i < fu_38 → ∀ (H : Heap) (locs : List Loc), va_P G.1 vwCl (wMd a G.2.1 G.2.2.1 t) H → va_D A (wMd a G.2.1 G.2.2.1 t) → va_S A sz.heap H locs → ∀ ls : Array Slot, lv_has ls 2 [(0, .ref (a 0)), (1, .int (nI i))] → W pz lz ez (gRm 5) sz mz ([.ref (a 0)] : List Value).toArray bz tz cz H locs 0 0 (MQ bz (gQ G (wMd a G.2.1 G.2.2.1 m) (wMd a G.2.1 G.2.2.1 (dGalS m)) (some (.int (dGalR m)))) ([.ref (a 0)] : List Value).toArray sz 0 0 (gAd (wMd a G.2.1 G.2.2.1 m))) (F0 mz 38 ls []) := by
    intro fu_38
    induction fu_38 with
    | zero =>
      intro i t hi ht hf_38
      exact absurd hf_38 (Nat.not_lt_zero _)
    | succ fu_38 ih_38 =>
      intro i t hi ht hf_38 H locs hP hD hS ls hl
      refine lv_iload_n hx hb dX5_gallery_38 rfl (lv_at hl 1 rfl) ?_
      refine lv_bipush (v := 50) hx hb dX5_gallery_39 (by decide) ?_
      refine lv_icmp_ge (tgt := 57) hx hb dX5_gallery_41 (by decide) (fun c_14 => ?_) (fun c_14 => ?_)
      · skip
        have c_14 := gl_le c_14
        have hi50 : i = 50 := by
          have := gl_ex (n := 50) rfl (by omega) (by omega) c_14
          omega
        have okt : dOK t := by
          rw [ht]
          exact dOK_rd okt13
        refine lv_aload_n hx hb dX5_gallery_57 rfl (lv_at hl 0 rfl) ?_
        refine g_wrV (As := []) (rest := []) (nL := 2) hx hb hml hown hts (c_X5_skips lz G a t okt) gX5_gallery_X5_skips rfl h_X5_skips ⟨Nat.le_of_ble_eq_true rfl, Nat.le_of_ble_eq_true rfl⟩ hK hP hD hS [0, 1, 2, 3, 4, 5, 6, 7] rfl rfl rfl (ws1 := wMd a G.2.1 G.2.2.1 (dSkp t)) rfl [a 0, a 1, a 2, a 3, a 4, a 5, a 6, a 7] rfl rfl (ci := 5) rfl rfl rfl rfl hl.1 rfl (Nat.le_of_ble_eq_true rfl) ⟨Nat.le_refl _, Nat.le_refl _⟩ dX5_gallery_58 (fun H locs hP hD hS => ?_)
        generalize ht15 : dSkp t = t15 at hP hD ⊢
        have okt15 : dOK t15 := by
          rw [← ht15]
          exact dOK_skp okt
        have hP : va_P G.1 vwCl (wMd a G.2.1 G.2.2.1 t15) H := hP
        have hD : va_D A (wMd a G.2.1 G.2.2.1 t15) := hD
        have eB : t13 = dIn0 m := by
          rw [dIn0, ht13, hw12, ht11, ht10, hw9, ht8, hw7, ht6, hw5, ht4, hw3, ht2, hw1]
        have eI : t = dIni m := by
          rw [dIni, ht, hi50, eB]
        have hgoS := dG_skp hZ (dG_ini hZ hz)
        rw [← eI, ht15] at hgoS
        obtain ⟨x0, -, -, hgoS⟩ := hgoS
        have lp_61 : ∀ (fu_61 : Nat) (F : Nat) (g : MdS), (∃ x n, dG Z x n g) → (g.wrong < 0 → Z - g.pos.toNatClampNeg < F) → (dLp F g = dLp 121 t15) → F < fu_61 → ∀ (H : Heap) (locs : List Loc), va_P G.1 vwCl (wMd a G.2.1 G.2.2.1 g) H → va_D A (wMd a G.2.1 G.2.2.1 g) → va_S A sz.heap H locs → ∀ ls : Array Slot, lv_has ls 2 [(0, .ref (a 0))] → W pz lz ez (gRm 5) sz mz ([.ref (a 0)] : List Value).toArray bz tz cz H locs 0 0 (MQ bz (gQ G (wMd a G.2.1 G.2.2.1 m) (wMd a G.2.1 G.2.2.1 (dGalS m)) (some (.int (dGalR m)))) ([.ref (a 0)] : List Value).toArray sz 0 0 (gAd (wMd a G.2.1 G.2.2.1 m))) (F0 mz 61 ls []) := by
          intro fu_61
          induction fu_61 with
          | zero =>
            intro F g hgo hF hsp hf_61
            exact absurd hf_61 (Nat.not_lt_zero _)
          | succ fu_61 ih_61 =>
            intro F g hgo hF hsp hf_61 H locs hP hD hS ls hl
            refine lv_aload_n hx hb dX5_gallery_61 rfl (lv_at hl 0 rfl) ?_
            refine va_get (D := G.1) (ci := 5) (v := .int g.wrong) (C := RX5) (T := TX5) (N := 21) hx hb hts i_X5_gallery_X5 hown hK.1 hP 0 rfl rfl 14 (by decide) f53 (fun _ h9 => h9) rfl dX5_gallery_62 ?_
            refine lv_if_ge (tgt := 97) hx hb dX5_gallery_65 (by decide) (fun c_16 => ?_) (fun c_16 => ?_)
            · skip
              have c_16 := gl_le c_16
              have hg0 : dGal0 m = g := by
                rw [dGal0, ← eI, ht15, ← hsp, dLp_w c_16]
              refine lv_aload_n hx hb dX5_gallery_97 rfl (lv_at hl 0 rfl) ?_
              refine va_get (D := G.1) (ci := 5) (v := .int g.wrong) (C := RX5) (T := TX5) (N := 21) hx hb hts i_X5_gallery_X5 hown hK.1 hP 0 rfl rfl 14 (by decide) f53 (fun _ h9 => h9) rfl dX5_gallery_98 ?_
              refine lv_if_lt (tgt := 112) hx hb dX5_gallery_101 (by decide) (fun c_17 => ?_) (fun c_17 => ?_)
              · skip
                skip
                refine lv_aload_n hx hb dX5_gallery_112 rfl (lv_at hl 0 rfl) ?_
                refine lv_iconst (v := 0) hx hb dX5_gallery_113 (by decide) ?_
                obtain ⟨w18, hw18⟩ : ∃ w : Int32, w = 0 := ⟨_, rfl⟩
                refine g_top (y := w18) hw18.symm ?_
                refine va_put (D := G.1) (ci := 5) (v := .int w18) (ty := .int) (C := RX5) (T := TX5) (N := 21) hx hb hts i_X5_gallery_X5 tyX5 tyX5_ok nmX5 hown hK.1 hP hD hS 0 rfl rfl 1 (by decide) f43 (fun _ h9 => h9) rfl (by decide +kernel) rfl rfl (Nat.le_of_ble_eq_true rfl) dX5_gallery_114 (fun H locs hP hD hS => ?_)
                obtain ⟨t19, ht19⟩ : ∃ u_ : MdS, u_ = mLn g w18 := ⟨_, rfl⟩
                have hP : va_P G.1 vwCl (wMd a G.2.1 G.2.2.1 t19) H := by
                  rw [ht19]
                  exact hP
                have hD : va_D A (wMd a G.2.1 G.2.2.1 t19) := by
                  rw [ht19]
                  exact hD
                have et19 : t19 = (g.text, w18, g.pl, g.loss, g.nich, g.st, g.book, g.undos, g.imgs, g.kept, g.heard, g.hm, g.trail, g.pos, g.wrong, g.items, g.rp, g.rl, g.sl, g.rn, g.read) := by
                  rw [ht19]
                  rfl
                refine lv_aload_n hx hb dX5_gallery_117 rfl (lv_at hl 0 rfl) ?_
                refine lv_aload_n hx hb dX5_gallery_118 rfl (lv_at hl 0 rfl) ?_
                refine va_get (D := G.1) (ci := 5) (v := .int t19.rp) (C := RX5) (T := TX5) (N := 21) hx hb hts i_X5_gallery_X5 hown hK.1 hP 0 rfl rfl 16 (by decide) f62 (fun _ h9 => h9) rfl dX5_gallery_119 ?_
                obtain ⟨w20, hw20⟩ : ∃ w : Int32, w = t19.rp := ⟨_, rfl⟩
                refine g_top (y := w20) hw20.symm ?_
                refine va_put (D := G.1) (ci := 5) (v := .int w20) (ty := .int) (C := RX5) (T := TX5) (N := 21) hx hb hts i_X5_gallery_X5 tyX5 tyX5_ok nmX5 hown hK.1 hP hD hS 0 rfl rfl 2 (by decide) f13 (fun _ h9 => h9) rfl (by decide +kernel) rfl rfl (Nat.le_of_ble_eq_true rfl) dX5_gallery_122 (fun H locs hP hD hS => ?_)
                obtain ⟨t21, ht21⟩ : ∃ u_ : MdS, u_ = mPl t19 w20 := ⟨_, rfl⟩
                have hP : va_P G.1 vwCl (wMd a G.2.1 G.2.2.1 t21) H := by
                  rw [ht21]
                  exact hP
                have hD : va_D A (wMd a G.2.1 G.2.2.1 t21) := by
                  rw [ht21]
                  exact hD
                have vw20 : w20 = g.rp := by
                  rw [hw20, et19]
                have et21 : t21 = (g.text, w18, w20, g.loss, g.nich, g.st, g.book, g.undos, g.imgs, g.kept, g.heard, g.hm, g.trail, g.pos, g.wrong, g.items, g.rp, g.rl, g.sl, g.rn, g.read) := by
                  rw [ht21, et19]
                  rfl
                refine lv_aload_n hx hb dX5_gallery_125 rfl (lv_at hl 0 rfl) ?_
                refine lv_aload_n hx hb dX5_gallery_126 rfl (lv_at hl 0 rfl) ?_
                refine va_get (D := G.1) (ci := 5) (v := .int t21.rl) (C := RX5) (T := TX5) (N := 21) hx hb hts i_X5_gallery_X5 hown hK.1 hP 0 rfl rfl 17 (by decide) f76 (fun _ h9 => h9) rfl dX5_gallery_127 ?_
                obtain ⟨w22, hw22⟩ : ∃ w : Int32, w = t21.rl := ⟨_, rfl⟩
                refine g_top (y := w22) hw22.symm ?_
                refine va_put (D := G.1) (ci := 5) (v := .int w22) (ty := .int) (C := RX5) (T := TX5) (N := 21) hx hb hts i_X5_gallery_X5 tyX5 tyX5_ok nmX5 hown hK.1 hP hD hS 0 rfl rfl 3 (by decide) f17 (fun _ h9 => h9) rfl (by decide +kernel) rfl rfl (Nat.le_of_ble_eq_true rfl) dX5_gallery_130 (fun H locs hP hD hS => ?_)
                obtain ⟨t23, ht23⟩ : ∃ u_ : MdS, u_ = mLo t21 w22 := ⟨_, rfl⟩
                have hP : va_P G.1 vwCl (wMd a G.2.1 G.2.2.1 t23) H := by
                  rw [ht23]
                  exact hP
                have hD : va_D A (wMd a G.2.1 G.2.2.1 t23) := by
                  rw [ht23]
                  exact hD
                have vw22 : w22 = g.rl := by
                  rw [hw22, et21]
                have et23 : t23 = (g.text, w18, w20, w22, g.nich, g.st, g.book, g.undos, g.imgs, g.kept, g.heard, g.hm, g.trail, g.pos, g.wrong, g.items, g.rp, g.rl, g.sl, g.rn, g.read) := by
                  rw [ht23, et21]
                  rfl
                refine lv_aload_n hx hb dX5_gallery_133 rfl (lv_at hl 0 rfl) ?_
                refine lv_aload_n hx hb dX5_gallery_134 rfl (lv_at hl 0 rfl) ?_
                refine va_get (D := G.1) (ci := 5) (v := .int t23.rn) (C := RX5) (T := TX5) (N := 21) hx hb hts i_X5_gallery_X5 hown hK.1 hP 0 rfl rfl 19 (by decide) f79 (fun _ h9 => h9) rfl dX5_gallery_135 ?_
                obtain ⟨w24, hw24⟩ : ∃ w : Int32, w = t23.rn := ⟨_, rfl⟩
                refine g_top (y := w24) hw24.symm ?_
                refine va_put (D := G.1) (ci := 5) (v := .int w24) (ty := .int) (C := RX5) (T := TX5) (N := 21) hx hb hts i_X5_gallery_X5 tyX5 tyX5_ok nmX5 hown hK.1 hP hD hS 0 rfl rfl 4 (by decide) f88 (fun _ h9 => h9) rfl (by decide +kernel) rfl rfl (Nat.le_of_ble_eq_true rfl) dX5_gallery_138 (fun H locs hP hD hS => ?_)
                obtain ⟨t25, ht25⟩ : ∃ u_ : MdS, u_ = mNi t23 w24 := ⟨_, rfl⟩
                have hP : va_P G.1 vwCl (wMd a G.2.1 G.2.2.1 t25) H := by
                  rw [ht25]
                  exact hP
                have hD : va_D A (wMd a G.2.1 G.2.2.1 t25) := by
                  rw [ht25]
                  exact hD
                have vw24 : w24 = g.rn := by
                  rw [hw24, et23]
                have et25 : t25 = (g.text, w18, w20, w22, w24, g.st, g.book, g.undos, g.imgs, g.kept, g.heard, g.hm, g.trail, g.pos, g.wrong, g.items, g.rp, g.rl, g.sl, g.rn, g.read) := by
                  rw [ht25, et23]
                  rfl
                refine lv_aload_n hx hb dX5_gallery_141 rfl (lv_at hl 0 rfl) ?_
                refine va_get (D := G.1) (ci := 5) (v := .ref (a 7)) (C := RX5) (T := TX5) (N := 21) hx hb hts i_X5_gallery_X5 hown hK.1 hP 0 rfl rfl 20 (by decide) f36 (fun _ h9 => h9) rfl dX5_gallery_142 ?_
                refine lv_iconst (v := 0) hx hb dX5_gallery_145 (by decide) ?_
                refine lv_aload_n hx hb dX5_gallery_146 rfl (lv_at hl 0 rfl) ?_
                refine va_get (D := G.1) (ci := 5) (v := .ref (a 2)) (C := RX5) (T := TX5) (N := 21) hx hb hts i_X5_gallery_X5 hown hK.1 hP 0 rfl rfl 5 (by decide) f20 (fun _ h9 => h9) rfl dX5_gallery_147 ?_
                refine lv_iconst (v := 0) hx hb dX5_gallery_150 (by decide) ?_
                refine lv_bipush (v := 50) hx hb dX5_gallery_151 (by decide) ?_
                skip
                refine g_wrS (As := [.ref (a 7), .int 0, .ref (a 2), .int 0, .int 50]) (rest := []) (nL := 2) hx hb hml hown hts (c_X5_bring lz G (a 7) (a 2) 50 50 0 0 50 t25.read t25.st (by omega) (by omega) (by decide) (by decide)) gX5_gallery_X5_bring rfl h_X5_bring ⟨Nat.le_of_ble_eq_true rfl, Nat.le_of_ble_eq_true rfl⟩ hK hP hD hS [7, 2] rfl rfl rfl (ws1 := wMd a G.2.1 G.2.2.1 (t25.text, t25.len, t25.pl, t25.loss, t25.nich, va_cpy t25.read t25.st 0 0 50, t25.book, t25.undos, t25.imgs, t25.kept, t25.heard, t25.hm, t25.trail, t25.pos, t25.wrong, t25.items, t25.rp, t25.rl, t25.sl, t25.rn, t25.read)) rfl [a 0, a 1, a 2, a 3, a 4, a 5, a 6, a 7] rfl rfl rfl hl.1 rfl (Nat.le_of_ble_eq_true rfl) ⟨Nat.le_refl _, Nat.le_refl _⟩ dX5_gallery_153 (fun H locs hP hD hS => ?_)
                obtain ⟨t26, ht26⟩ : ∃ u_ : MdS, u_ = mSt t25 (va_cpy t25.read t25.st 0 0 50) := ⟨_, rfl⟩
                have hP : va_P G.1 vwCl (wMd a G.2.1 G.2.2.1 t26) H := by
                  rw [ht26]
                  exact hP
                have hD : va_D A (wMd a G.2.1 G.2.2.1 t26) := by
                  rw [ht26]
                  exact hD
                have et26 : t26 = (g.text, w18, w20, w22, w24, (va_cpy g.read g.st 0 0 50), g.book, g.undos, g.imgs, g.kept, g.heard, g.hm, g.trail, g.pos, g.wrong, g.items, g.rp, g.rl, g.sl, g.rn, g.read) := by
                  rw [ht26, et25]
                  rfl
                refine lv_aload_n hx hb dX5_gallery_156 rfl (lv_at hl 0 rfl) ?_
                refine lv_iconst (v := 0) hx hb dX5_gallery_157 (by decide) ?_
                obtain ⟨w27, hw27⟩ : ∃ w : Int32, w = 0 := ⟨_, rfl⟩
                refine g_top (y := w27) hw27.symm ?_
                refine va_put (D := G.1) (ci := 5) (v := .int w27) (ty := .int) (C := RX5) (T := TX5) (N := 21) hx hb hts i_X5_gallery_X5 tyX5 tyX5_ok nmX5 hown hK.1 hP hD hS 0 rfl rfl 7 (by decide) f95 (fun _ h9 => h9) rfl (by decide +kernel) rfl rfl (Nat.le_of_ble_eq_true rfl) dX5_gallery_158 (fun H locs hP hD hS => ?_)
                obtain ⟨t28, ht28⟩ : ∃ u_ : MdS, u_ = mUn t26 w27 := ⟨_, rfl⟩
                have hP : va_P G.1 vwCl (wMd a G.2.1 G.2.2.1 t28) H := by
                  rw [ht28]
                  exact hP
                have hD : va_D A (wMd a G.2.1 G.2.2.1 t28) := by
                  rw [ht28]
                  exact hD
                have et28 : t28 = (g.text, w18, w20, w22, w24, (va_cpy g.read g.st 0 0 50), g.book, w27, g.imgs, g.kept, g.heard, g.hm, g.trail, g.pos, g.wrong, g.items, g.rp, g.rl, g.sl, g.rn, g.read) := by
                  rw [ht28, et26]
                  rfl
                refine lv_aload_n hx hb dX5_gallery_161 rfl (lv_at hl 0 rfl) ?_
                refine lv_iconst (v := 0) hx hb dX5_gallery_162 (by decide) ?_
                obtain ⟨w29, hw29⟩ : ∃ w : Int32, w = 0 := ⟨_, rfl⟩
                refine g_top (y := w29) hw29.symm ?_
                refine va_put (D := G.1) (ci := 5) (v := .int w29) (ty := .int) (C := RX5) (T := TX5) (N := 21) hx hb hts i_X5_gallery_X5 tyX5 tyX5_ok nmX5 hown hK.1 hP hD hS 0 rfl rfl 11 (by decide) f98 (fun _ h9 => h9) rfl (by decide +kernel) rfl rfl (Nat.le_of_ble_eq_true rfl) dX5_gallery_163 (fun H locs hP hD hS => ?_)
                obtain ⟨t30, ht30⟩ : ∃ u_ : MdS, u_ = mHm t28 w29 := ⟨_, rfl⟩
                have hP : va_P G.1 vwCl (wMd a G.2.1 G.2.2.1 t30) H := by
                  rw [ht30]
                  exact hP
                have hD : va_D A (wMd a G.2.1 G.2.2.1 t30) := by
                  rw [ht30]
                  exact hD
                have et30 : t30 = (g.text, w18, w20, w22, w24, (va_cpy g.read g.st 0 0 50), g.book, w27, g.imgs, g.kept, g.heard, w29, g.trail, g.pos, g.wrong, g.items, g.rp, g.rl, g.sl, g.rn, g.read) := by
                  rw [ht30, et28]
                  rfl
                refine lv_aload_n hx hb dX5_gallery_166 rfl (lv_at hl 0 rfl) ?_
                refine va_get (D := G.1) (ci := 5) (v := .ref (a 5)) (C := RX5) (T := TX5) (N := 21) hx hb hts i_X5_gallery_X5 hown hK.1 hP 0 rfl rfl 9 (by decide) f29 (fun _ h9 => h9) rfl dX5_gallery_167 ?_
                refine lv_iconst (v := 0) hx hb dX5_gallery_170 (by decide) ?_
                refine g_top (y := nI 0) (rfl) ?_
                refine lv_iconst (v := 0) hx hb dX5_gallery_171 (by decide) ?_
                refine g_zast hx hb hK.1 hP hD hS 5 1 rfl rfl (i := 0) (by omega) (by decide) rfl dX5_gallery_172 (fun H locs hP hD hS => ?_)
                obtain ⟨t31, ht31⟩ : ∃ u_ : MdS, u_ = mKe t30 (upd t30.kept 0 0) := ⟨_, rfl⟩
                have hP : va_P G.1 vwCl (wMd a G.2.1 G.2.2.1 t31) H := by
                  rw [ht31]
                  exact hP
                have hD : va_D A (wMd a G.2.1 G.2.2.1 t31) := by
                  rw [ht31]
                  exact hD
                have et31 : t31 = (g.text, w18, w20, w22, w24, (va_cpy g.read g.st 0 0 50), g.book, w27, g.imgs, (upd g.kept 0 0), g.heard, w29, g.trail, g.pos, g.wrong, g.items, g.rp, g.rl, g.sl, g.rn, g.read) := by
                  rw [ht31, et30]
                  rfl
                refine lv_aload_n hx hb dX5_gallery_173 rfl (lv_at hl 0 rfl) ?_
                refine va_get (D := G.1) (ci := 5) (v := .ref (a 5)) (C := RX5) (T := TX5) (N := 21) hx hb hts i_X5_gallery_X5 hown hK.1 hP 0 rfl rfl 9 (by decide) f29 (fun _ h9 => h9) rfl dX5_gallery_174 ?_
                refine lv_iconst (v := 1) hx hb dX5_gallery_177 (by decide) ?_
                refine g_top (y := nI 1) (rfl) ?_
                refine lv_iconst (v := 0) hx hb dX5_gallery_178 (by decide) ?_
                refine g_zast hx hb hK.1 hP hD hS 5 1 rfl rfl (i := 1) (by omega) (by decide) rfl dX5_gallery_179 (fun H locs hP hD hS => ?_)
                obtain ⟨t32, ht32⟩ : ∃ u_ : MdS, u_ = mKe t31 (upd t31.kept 1 0) := ⟨_, rfl⟩
                have hP : va_P G.1 vwCl (wMd a G.2.1 G.2.2.1 t32) H := by
                  rw [ht32]
                  exact hP
                have hD : va_D A (wMd a G.2.1 G.2.2.1 t32) := by
                  rw [ht32]
                  exact hD
                have et32 : t32 = (g.text, w18, w20, w22, w24, (va_cpy g.read g.st 0 0 50), g.book, w27, g.imgs, (upd (upd g.kept 0 0) 1 0), g.heard, w29, g.trail, g.pos, g.wrong, g.items, g.rp, g.rl, g.sl, g.rn, g.read) := by
                  rw [ht32, et31]
                  rfl
                refine lv_aload_n hx hb dX5_gallery_180 rfl (lv_at hl 0 rfl) ?_
                refine va_get (D := G.1) (ci := 5) (v := .int t32.items) (C := RX5) (T := TX5) (N := 21) hx hb hts i_X5_gallery_X5 hown hK.1 hP 0 rfl rfl 15 (by decide) f59 (fun _ h9 => h9) rfl dX5_gallery_181 ?_
                have hfin : dCom g = t32 := by
                  rw [dCom, et32, hw18, vw20, vw22, vw24, hw27, hw29]
                have hP : va_P G.1 vwCl (wMd a G.2.1 G.2.2.1 (dGalS m)) H := by
                  rw [dGalS, hg0, if_pos c_17, hfin]
                  exact hP
                exact g_wi hx hb hr hlocks hAe hP hS dX5_gallery_184 (by rw [dGalR, hg0, if_pos c_17, et32])
              · skip
                refine lv_bipush (v := (-10)) hx hb dX5_gallery_104 (by decide) ?_
                refine lv_aload_n hx hb dX5_gallery_106 rfl (lv_at hl 0 rfl) ?_
                refine va_get (D := G.1) (ci := 5) (v := .int g.wrong) (C := RX5) (T := TX5) (N := 21) hx hb hts i_X5_gallery_X5 hown hK.1 hP 0 rfl rfl 14 (by decide) f53 (fun _ h9 => h9) rfl dX5_gallery_107 ?_
                refine lv_isub hx hb dX5_gallery_110 ?_
                have hP : va_P G.1 vwCl (wMd a G.2.1 G.2.2.1 (dGalS m)) H := by
                  rw [dGalS, hg0, if_neg c_17]
                  exact hP
                exact g_wi hx hb hr hlocks hAe hP hS dX5_gallery_111 (by rw [dGalR, hg0, if_neg c_17])
            · skip
              have c_16 := gl_nle c_16
              refine lv_aload_n hx hb dX5_gallery_68 rfl (lv_at hl 0 rfl) ?_
              refine va_get (D := G.1) (ci := 5) (v := .int g.pos) (C := RX5) (T := TX5) (N := 21) hx hb hts i_X5_gallery_X5 hown hK.1 hP 0 rfl rfl 13 (by decide) f46 (fun _ h9 => h9) rfl dX5_gallery_69 ?_
              refine lv_aload_n hx hb dX5_gallery_72 rfl (lv_at hl 0 rfl) ?_
              refine va_get (D := G.1) (ci := 5) (v := .int g.len) (C := RX5) (T := TX5) (N := 21) hx hb hts i_X5_gallery_X5 hown hK.1 hP 0 rfl rfl 1 (by decide) f43 (fun _ h9 => h9) rfl dX5_gallery_73 ?_
              refine lv_icmp_ge (tgt := 97) hx hb dX5_gallery_76 (by decide) (fun c_33 => ?_) (fun c_33 => ?_)
              · skip
                have c_33 := gl_le c_33
                have hg0 : dGal0 m = g := by
                  rw [dGal0, ← eI, ht15, ← hsp, dLp_p c_33]
                refine lv_aload_n hx hb dX5_gallery_97 rfl (lv_at hl 0 rfl) ?_
                refine va_get (D := G.1) (ci := 5) (v := .int g.wrong) (C := RX5) (T := TX5) (N := 21) hx hb hts i_X5_gallery_X5 hown hK.1 hP 0 rfl rfl 14 (by decide) f53 (fun _ h9 => h9) rfl dX5_gallery_98 ?_
                refine lv_if_lt (tgt := 112) hx hb dX5_gallery_101 (by decide) (fun c_34 => ?_) (fun c_34 => ?_)
                · skip
                  skip
                  refine lv_aload_n hx hb dX5_gallery_112 rfl (lv_at hl 0 rfl) ?_
                  refine lv_iconst (v := 0) hx hb dX5_gallery_113 (by decide) ?_
                  obtain ⟨w35, hw35⟩ : ∃ w : Int32, w = 0 := ⟨_, rfl⟩
                  refine g_top (y := w35) hw35.symm ?_
                  refine va_put (D := G.1) (ci := 5) (v := .int w35) (ty := .int) (C := RX5) (T := TX5) (N := 21) hx hb hts i_X5_gallery_X5 tyX5 tyX5_ok nmX5 hown hK.1 hP hD hS 0 rfl rfl 1 (by decide) f43 (fun _ h9 => h9) rfl (by decide +kernel) rfl rfl (Nat.le_of_ble_eq_true rfl) dX5_gallery_114 (fun H locs hP hD hS => ?_)
                  obtain ⟨t36, ht36⟩ : ∃ u_ : MdS, u_ = mLn g w35 := ⟨_, rfl⟩
                  have hP : va_P G.1 vwCl (wMd a G.2.1 G.2.2.1 t36) H := by
                    rw [ht36]
                    exact hP
                  have hD : va_D A (wMd a G.2.1 G.2.2.1 t36) := by
                    rw [ht36]
                    exact hD
                  have et36 : t36 = (g.text, w35, g.pl, g.loss, g.nich, g.st, g.book, g.undos, g.imgs, g.kept, g.heard, g.hm, g.trail, g.pos, g.wrong, g.items, g.rp, g.rl, g.sl, g.rn, g.read) := by
                    rw [ht36]
                    rfl
                  refine lv_aload_n hx hb dX5_gallery_117 rfl (lv_at hl 0 rfl) ?_
                  refine lv_aload_n hx hb dX5_gallery_118 rfl (lv_at hl 0 rfl) ?_
                  refine va_get (D := G.1) (ci := 5) (v := .int t36.rp) (C := RX5) (T := TX5) (N := 21) hx hb hts i_X5_gallery_X5 hown hK.1 hP 0 rfl rfl 16 (by decide) f62 (fun _ h9 => h9) rfl dX5_gallery_119 ?_
                  obtain ⟨w37, hw37⟩ : ∃ w : Int32, w = t36.rp := ⟨_, rfl⟩
                  refine g_top (y := w37) hw37.symm ?_
                  refine va_put (D := G.1) (ci := 5) (v := .int w37) (ty := .int) (C := RX5) (T := TX5) (N := 21) hx hb hts i_X5_gallery_X5 tyX5 tyX5_ok nmX5 hown hK.1 hP hD hS 0 rfl rfl 2 (by decide) f13 (fun _ h9 => h9) rfl (by decide +kernel) rfl rfl (Nat.le_of_ble_eq_true rfl) dX5_gallery_122 (fun H locs hP hD hS => ?_)
                  obtain ⟨t38, ht38⟩ : ∃ u_ : MdS, u_ = mPl t36 w37 := ⟨_, rfl⟩
                  have hP : va_P G.1 vwCl (wMd a G.2.1 G.2.2.1 t38) H := by
                    rw [ht38]
                    exact hP
                  have hD : va_D A (wMd a G.2.1 G.2.2.1 t38) := by
                    rw [ht38]
                    exact hD
                  have vw37 : w37 = g.rp := by
                    rw [hw37, et36]
                  have et38 : t38 = (g.text, w35, w37, g.loss, g.nich, g.st, g.book, g.undos, g.imgs, g.kept, g.heard, g.hm, g.trail, g.pos, g.wrong, g.items, g.rp, g.rl, g.sl, g.rn, g.read) := by
                    rw [ht38, et36]
                    rfl
                  refine lv_aload_n hx hb dX5_gallery_125 rfl (lv_at hl 0 rfl) ?_
                  refine lv_aload_n hx hb dX5_gallery_126 rfl (lv_at hl 0 rfl) ?_
                  refine va_get (D := G.1) (ci := 5) (v := .int t38.rl) (C := RX5) (T := TX5) (N := 21) hx hb hts i_X5_gallery_X5 hown hK.1 hP 0 rfl rfl 17 (by decide) f76 (fun _ h9 => h9) rfl dX5_gallery_127 ?_
                  obtain ⟨w39, hw39⟩ : ∃ w : Int32, w = t38.rl := ⟨_, rfl⟩
                  refine g_top (y := w39) hw39.symm ?_
                  refine va_put (D := G.1) (ci := 5) (v := .int w39) (ty := .int) (C := RX5) (T := TX5) (N := 21) hx hb hts i_X5_gallery_X5 tyX5 tyX5_ok nmX5 hown hK.1 hP hD hS 0 rfl rfl 3 (by decide) f17 (fun _ h9 => h9) rfl (by decide +kernel) rfl rfl (Nat.le_of_ble_eq_true rfl) dX5_gallery_130 (fun H locs hP hD hS => ?_)
                  obtain ⟨t40, ht40⟩ : ∃ u_ : MdS, u_ = mLo t38 w39 := ⟨_, rfl⟩
                  have hP : va_P G.1 vwCl (wMd a G.2.1 G.2.2.1 t40) H := by
                    rw [ht40]
                    exact hP
                  have hD : va_D A (wMd a G.2.1 G.2.2.1 t40) := by
                    rw [ht40]
                    exact hD
                  have vw39 : w39 = g.rl := by
                    rw [hw39, et38]
                  have et40 : t40 = (g.text, w35, w37, w39, g.nich, g.st, g.book, g.undos, g.imgs, g.kept, g.heard, g.hm, g.trail, g.pos, g.wrong, g.items, g.rp, g.rl, g.sl, g.rn, g.read) := by
                    rw [ht40, et38]
                    rfl
                  refine lv_aload_n hx hb dX5_gallery_133 rfl (lv_at hl 0 rfl) ?_
                  refine lv_aload_n hx hb dX5_gallery_134 rfl (lv_at hl 0 rfl) ?_
                  refine va_get (D := G.1) (ci := 5) (v := .int t40.rn) (C := RX5) (T := TX5) (N := 21) hx hb hts i_X5_gallery_X5 hown hK.1 hP 0 rfl rfl 19 (by decide) f79 (fun _ h9 => h9) rfl dX5_gallery_135 ?_
                  obtain ⟨w41, hw41⟩ : ∃ w : Int32, w = t40.rn := ⟨_, rfl⟩
                  refine g_top (y := w41) hw41.symm ?_
                  refine va_put (D := G.1) (ci := 5) (v := .int w41) (ty := .int) (C := RX5) (T := TX5) (N := 21) hx hb hts i_X5_gallery_X5 tyX5 tyX5_ok nmX5 hown hK.1 hP hD hS 0 rfl rfl 4 (by decide) f88 (fun _ h9 => h9) rfl (by decide +kernel) rfl rfl (Nat.le_of_ble_eq_true rfl) dX5_gallery_138 (fun H locs hP hD hS => ?_)
                  obtain ⟨t42, ht42⟩ : ∃ u_ : MdS, u_ = mNi t40 w41 := ⟨_, rfl⟩
                  have hP : va_P G.1 vwCl (wMd a G.2.1 G.2.2.1 t42) H := by
                    rw [ht42]
                    exact hP
                  have hD : va_D A (wMd a G.2.1 G.2.2.1 t42) := by
                    rw [ht42]
                    exact hD
                  have vw41 : w41 = g.rn := by
                    rw [hw41, et40]
                  have et42 : t42 = (g.text, w35, w37, w39, w41, g.st, g.book, g.undos, g.imgs, g.kept, g.heard, g.hm, g.trail, g.pos, g.wrong, g.items, g.rp, g.rl, g.sl, g.rn, g.read) := by
                    rw [ht42, et40]
                    rfl
                  refine lv_aload_n hx hb dX5_gallery_141 rfl (lv_at hl 0 rfl) ?_
                  refine va_get (D := G.1) (ci := 5) (v := .ref (a 7)) (C := RX5) (T := TX5) (N := 21) hx hb hts i_X5_gallery_X5 hown hK.1 hP 0 rfl rfl 20 (by decide) f36 (fun _ h9 => h9) rfl dX5_gallery_142 ?_
                  refine lv_iconst (v := 0) hx hb dX5_gallery_145 (by decide) ?_
                  refine lv_aload_n hx hb dX5_gallery_146 rfl (lv_at hl 0 rfl) ?_
                  refine va_get (D := G.1) (ci := 5) (v := .ref (a 2)) (C := RX5) (T := TX5) (N := 21) hx hb hts i_X5_gallery_X5 hown hK.1 hP 0 rfl rfl 5 (by decide) f20 (fun _ h9 => h9) rfl dX5_gallery_147 ?_
                  refine lv_iconst (v := 0) hx hb dX5_gallery_150 (by decide) ?_
                  refine lv_bipush (v := 50) hx hb dX5_gallery_151 (by decide) ?_
                  skip
                  refine g_wrS (As := [.ref (a 7), .int 0, .ref (a 2), .int 0, .int 50]) (rest := []) (nL := 2) hx hb hml hown hts (c_X5_bring lz G (a 7) (a 2) 50 50 0 0 50 t42.read t42.st (by omega) (by omega) (by decide) (by decide)) gX5_gallery_X5_bring rfl h_X5_bring ⟨Nat.le_of_ble_eq_true rfl, Nat.le_of_ble_eq_true rfl⟩ hK hP hD hS [7, 2] rfl rfl rfl (ws1 := wMd a G.2.1 G.2.2.1 (t42.text, t42.len, t42.pl, t42.loss, t42.nich, va_cpy t42.read t42.st 0 0 50, t42.book, t42.undos, t42.imgs, t42.kept, t42.heard, t42.hm, t42.trail, t42.pos, t42.wrong, t42.items, t42.rp, t42.rl, t42.sl, t42.rn, t42.read)) rfl [a 0, a 1, a 2, a 3, a 4, a 5, a 6, a 7] rfl rfl rfl hl.1 rfl (Nat.le_of_ble_eq_true rfl) ⟨Nat.le_refl _, Nat.le_refl _⟩ dX5_gallery_153 (fun H locs hP hD hS => ?_)
                  obtain ⟨t43, ht43⟩ : ∃ u_ : MdS, u_ = mSt t42 (va_cpy t42.read t42.st 0 0 50) := ⟨_, rfl⟩
                  have hP : va_P G.1 vwCl (wMd a G.2.1 G.2.2.1 t43) H := by
                    rw [ht43]
                    exact hP
                  have hD : va_D A (wMd a G.2.1 G.2.2.1 t43) := by
                    rw [ht43]
                    exact hD
                  have et43 : t43 = (g.text, w35, w37, w39, w41, (va_cpy g.read g.st 0 0 50), g.book, g.undos, g.imgs, g.kept, g.heard, g.hm, g.trail, g.pos, g.wrong, g.items, g.rp, g.rl, g.sl, g.rn, g.read) := by
                    rw [ht43, et42]
                    rfl
                  refine lv_aload_n hx hb dX5_gallery_156 rfl (lv_at hl 0 rfl) ?_
                  refine lv_iconst (v := 0) hx hb dX5_gallery_157 (by decide) ?_
                  obtain ⟨w44, hw44⟩ : ∃ w : Int32, w = 0 := ⟨_, rfl⟩
                  refine g_top (y := w44) hw44.symm ?_
                  refine va_put (D := G.1) (ci := 5) (v := .int w44) (ty := .int) (C := RX5) (T := TX5) (N := 21) hx hb hts i_X5_gallery_X5 tyX5 tyX5_ok nmX5 hown hK.1 hP hD hS 0 rfl rfl 7 (by decide) f95 (fun _ h9 => h9) rfl (by decide +kernel) rfl rfl (Nat.le_of_ble_eq_true rfl) dX5_gallery_158 (fun H locs hP hD hS => ?_)
                  obtain ⟨t45, ht45⟩ : ∃ u_ : MdS, u_ = mUn t43 w44 := ⟨_, rfl⟩
                  have hP : va_P G.1 vwCl (wMd a G.2.1 G.2.2.1 t45) H := by
                    rw [ht45]
                    exact hP
                  have hD : va_D A (wMd a G.2.1 G.2.2.1 t45) := by
                    rw [ht45]
                    exact hD
                  have et45 : t45 = (g.text, w35, w37, w39, w41, (va_cpy g.read g.st 0 0 50), g.book, w44, g.imgs, g.kept, g.heard, g.hm, g.trail, g.pos, g.wrong, g.items, g.rp, g.rl, g.sl, g.rn, g.read) := by
                    rw [ht45, et43]
                    rfl
                  refine lv_aload_n hx hb dX5_gallery_161 rfl (lv_at hl 0 rfl) ?_
                  refine lv_iconst (v := 0) hx hb dX5_gallery_162 (by decide) ?_
                  obtain ⟨w46, hw46⟩ : ∃ w : Int32, w = 0 := ⟨_, rfl⟩
                  refine g_top (y := w46) hw46.symm ?_
                  refine va_put (D := G.1) (ci := 5) (v := .int w46) (ty := .int) (C := RX5) (T := TX5) (N := 21) hx hb hts i_X5_gallery_X5 tyX5 tyX5_ok nmX5 hown hK.1 hP hD hS 0 rfl rfl 11 (by decide) f98 (fun _ h9 => h9) rfl (by decide +kernel) rfl rfl (Nat.le_of_ble_eq_true rfl) dX5_gallery_163 (fun H locs hP hD hS => ?_)
                  obtain ⟨t47, ht47⟩ : ∃ u_ : MdS, u_ = mHm t45 w46 := ⟨_, rfl⟩
                  have hP : va_P G.1 vwCl (wMd a G.2.1 G.2.2.1 t47) H := by
                    rw [ht47]
                    exact hP
                  have hD : va_D A (wMd a G.2.1 G.2.2.1 t47) := by
                    rw [ht47]
                    exact hD
                  have et47 : t47 = (g.text, w35, w37, w39, w41, (va_cpy g.read g.st 0 0 50), g.book, w44, g.imgs, g.kept, g.heard, w46, g.trail, g.pos, g.wrong, g.items, g.rp, g.rl, g.sl, g.rn, g.read) := by
                    rw [ht47, et45]
                    rfl
                  refine lv_aload_n hx hb dX5_gallery_166 rfl (lv_at hl 0 rfl) ?_
                  refine va_get (D := G.1) (ci := 5) (v := .ref (a 5)) (C := RX5) (T := TX5) (N := 21) hx hb hts i_X5_gallery_X5 hown hK.1 hP 0 rfl rfl 9 (by decide) f29 (fun _ h9 => h9) rfl dX5_gallery_167 ?_
                  refine lv_iconst (v := 0) hx hb dX5_gallery_170 (by decide) ?_
                  refine g_top (y := nI 0) (rfl) ?_
                  refine lv_iconst (v := 0) hx hb dX5_gallery_171 (by decide) ?_
                  refine g_zast hx hb hK.1 hP hD hS 5 1 rfl rfl (i := 0) (by omega) (by decide) rfl dX5_gallery_172 (fun H locs hP hD hS => ?_)
                  obtain ⟨t48, ht48⟩ : ∃ u_ : MdS, u_ = mKe t47 (upd t47.kept 0 0) := ⟨_, rfl⟩
                  have hP : va_P G.1 vwCl (wMd a G.2.1 G.2.2.1 t48) H := by
                    rw [ht48]
                    exact hP
                  have hD : va_D A (wMd a G.2.1 G.2.2.1 t48) := by
                    rw [ht48]
                    exact hD
                  have et48 : t48 = (g.text, w35, w37, w39, w41, (va_cpy g.read g.st 0 0 50), g.book, w44, g.imgs, (upd g.kept 0 0), g.heard, w46, g.trail, g.pos, g.wrong, g.items, g.rp, g.rl, g.sl, g.rn, g.read) := by
                    rw [ht48, et47]
                    rfl
                  refine lv_aload_n hx hb dX5_gallery_173 rfl (lv_at hl 0 rfl) ?_
                  refine va_get (D := G.1) (ci := 5) (v := .ref (a 5)) (C := RX5) (T := TX5) (N := 21) hx hb hts i_X5_gallery_X5 hown hK.1 hP 0 rfl rfl 9 (by decide) f29 (fun _ h9 => h9) rfl dX5_gallery_174 ?_
                  refine lv_iconst (v := 1) hx hb dX5_gallery_177 (by decide) ?_
                  refine g_top (y := nI 1) (rfl) ?_
                  refine lv_iconst (v := 0) hx hb dX5_gallery_178 (by decide) ?_
                  refine g_zast hx hb hK.1 hP hD hS 5 1 rfl rfl (i := 1) (by omega) (by decide) rfl dX5_gallery_179 (fun H locs hP hD hS => ?_)
                  obtain ⟨t49, ht49⟩ : ∃ u_ : MdS, u_ = mKe t48 (upd t48.kept 1 0) := ⟨_, rfl⟩
                  have hP : va_P G.1 vwCl (wMd a G.2.1 G.2.2.1 t49) H := by
                    rw [ht49]
                    exact hP
                  have hD : va_D A (wMd a G.2.1 G.2.2.1 t49) := by
                    rw [ht49]
                    exact hD
                  have et49 : t49 = (g.text, w35, w37, w39, w41, (va_cpy g.read g.st 0 0 50), g.book, w44, g.imgs, (upd (upd g.kept 0 0) 1 0), g.heard, w46, g.trail, g.pos, g.wrong, g.items, g.rp, g.rl, g.sl, g.rn, g.read) := by
                    rw [ht49, et48]
                    rfl
                  refine lv_aload_n hx hb dX5_gallery_180 rfl (lv_at hl 0 rfl) ?_
                  refine va_get (D := G.1) (ci := 5) (v := .int t49.items) (C := RX5) (T := TX5) (N := 21) hx hb hts i_X5_gallery_X5 hown hK.1 hP 0 rfl rfl 15 (by decide) f59 (fun _ h9 => h9) rfl dX5_gallery_181 ?_
                  have hfin : dCom g = t49 := by
                    rw [dCom, et49, hw35, vw37, vw39, vw41, hw44, hw46]
                  have hP : va_P G.1 vwCl (wMd a G.2.1 G.2.2.1 (dGalS m)) H := by
                    rw [dGalS, hg0, if_pos c_34, hfin]
                    exact hP
                  exact g_wi hx hb hr hlocks hAe hP hS dX5_gallery_184 (by rw [dGalR, hg0, if_pos c_34, et49])
                · skip
                  refine lv_bipush (v := (-10)) hx hb dX5_gallery_104 (by decide) ?_
                  refine lv_aload_n hx hb dX5_gallery_106 rfl (lv_at hl 0 rfl) ?_
                  refine va_get (D := G.1) (ci := 5) (v := .int g.wrong) (C := RX5) (T := TX5) (N := 21) hx hb hts i_X5_gallery_X5 hown hK.1 hP 0 rfl rfl 14 (by decide) f53 (fun _ h9 => h9) rfl dX5_gallery_107 ?_
                  refine lv_isub hx hb dX5_gallery_110 ?_
                  have hP : va_P G.1 vwCl (wMd a G.2.1 G.2.2.1 (dGalS m)) H := by
                    rw [dGalS, hg0, if_neg c_34]
                    exact hP
                  exact g_wi hx hb hr hlocks hAe hP hS dX5_gallery_111 (by rw [dGalR, hg0, if_neg c_34])
              · skip
                have c_33 := gl_nle c_33
                refine lv_aload_n hx hb dX5_gallery_79 rfl (lv_at hl 0 rfl) ?_
                obtain ⟨x, n, hgo⟩ := hgo
                have hF := hF c_16
                rw [hgo.2.1, nI_clamp (Nat.lt_of_le_of_lt hgo.2.2.1 (by omega))] at hF
                have hF0 : 0 < F := by omega
                have hltx : x < Z := gl_ll hgo.2.1 hgo.1 (by have := hgo.2.2.1; omega) (by omega) c_33
                have hltp : g.pos < g.len := c_33
                have hrd := hgo.2.2.2.1
                have hn8 := hgo.2.2.2.2
                have okg : dOK g := hgo.ok hZ
                skip
                refine g_wrV (As := []) (rest := []) (nL := 2) hx hb hml hown hts (c_X5_readItem lz G a g n hrd hn8 okg hltp) gX5_gallery_X5_readItem rfl h_X5_readItem ⟨Nat.le_of_ble_eq_true rfl, Nat.le_of_ble_eq_true rfl⟩ hK hP hD hS [0, 1, 2, 3, 4, 5, 6, 7] rfl rfl rfl (ws1 := wMd a G.2.1 G.2.2.1 (dItm g)) rfl [a 0, a 1, a 2, a 3, a 4, a 5, a 6, a 7] rfl rfl (ci := 5) rfl rfl rfl rfl hl.1 rfl (Nat.le_of_ble_eq_true rfl) ⟨Nat.le_refl _, Nat.le_refl _⟩ dX5_gallery_80 (fun H locs hP hD hS => ?_)
                generalize ht50 : dItm g = t50 at hP hD ⊢
                obtain ⟨hgo2, hadv⟩ := dG_itm hZ hgo hltx
                rw [ht50] at hgo2 hadv
                obtain ⟨y, n2, hgo2⟩ := hgo2
                have okt50 : dOK t50 := by
                  exact hgo2.ok hZ
                have hP : va_P G.1 vwCl (wMd a G.2.1 G.2.2.1 t50) H := hP
                have hD : va_D A (wMd a G.2.1 G.2.2.1 t50) := hD
                refine lv_aload_n hx hb dX5_gallery_83 rfl (lv_at hl 0 rfl) ?_
                refine va_get (D := G.1) (ci := 5) (v := .int t50.wrong) (C := RX5) (T := TX5) (N := 21) hx hb hts i_X5_gallery_X5 hown hK.1 hP 0 rfl rfl 14 (by decide) f53 (fun _ h9 => h9) rfl dX5_gallery_84 ?_
                refine lv_if_ge (tgt := 61) hx hb dX5_gallery_87 (by decide) (fun c_51 => ?_) (fun c_51 => ?_)
                · skip
                  have c_51 := gl_le c_51
                  exact ih_61 (F - 1) t50 (⟨_, _, hgo2⟩) (fun q => absurd q c_51) (by rw [← hsp, show F = (F - 1) + 1 by omega, dLp, if_pos c_16, if_pos c_33, ht50, if_neg c_51, Nat.add_sub_cancel]) (by omega) _ _ hP hD hS ls (lv_sub hl [0] rfl)
                · skip
                  have c_51 := gl_nle c_51
                  refine lv_aload_n hx hb dX5_gallery_90 rfl (lv_at hl 0 rfl) ?_
                  refine g_wrV (As := []) (rest := []) (nL := 2) hx hb hml hown hts (c_X5_skips lz G a t50 okt50) gX5_gallery_X5_skips rfl h_X5_skips ⟨Nat.le_of_ble_eq_true rfl, Nat.le_of_ble_eq_true rfl⟩ hK hP hD hS [0, 1, 2, 3, 4, 5, 6, 7] rfl rfl rfl (ws1 := wMd a G.2.1 G.2.2.1 (dSkp t50)) rfl [a 0, a 1, a 2, a 3, a 4, a 5, a 6, a 7] rfl rfl (ci := 5) rfl rfl rfl rfl hl.1 rfl (Nat.le_of_ble_eq_true rfl) ⟨Nat.le_refl _, Nat.le_refl _⟩ dX5_gallery_91 (fun H locs hP hD hS => ?_)
                  generalize ht52 : dSkp t50 = t52 at hP hD ⊢
                  have okt52 : dOK t52 := by
                    rw [← ht52]
                    exact dOK_skp okt50
                  have hP : va_P G.1 vwCl (wMd a G.2.1 G.2.2.1 t52) H := hP
                  have hD : va_D A (wMd a G.2.1 G.2.2.1 t52) := hD
                  obtain ⟨z, hyz, -, hgo3⟩ := dG_skp hZ hgo2
                  rw [ht52] at hgo3
                  refine lv_goto (tgt := 61) hx hb dX5_gallery_94 (by decide) ?_
                  exact ih_61 (F - 1) t52 (⟨_, _, hgo3⟩) (fun _ => by rw [hgo3.2.1, nI_clamp (Nat.lt_of_le_of_lt hgo3.2.2.1 (by omega))]; have := hadv c_51; rw [hgo2.2.1, nI_clamp (Nat.lt_of_le_of_lt hgo2.2.2.1 (by omega))] at this; omega) (by rw [← hsp, show F = (F - 1) + 1 by omega, dLp, if_pos c_16, if_pos c_33, ht50, if_pos c_51, ht52, Nat.add_sub_cancel]) (by omega) _ _ hP hD hS ls (lv_sub hl [0] rfl)
        exact lp_61 (121 + 1) 121 t15 (⟨_, _, hgoS⟩) (fun _ => by omega) rfl (Nat.lt_succ_self _) _ _ hP hD hS ls (lv_sub hl [0] rfl)
      · skip
        have c_14 := gl_nle c_14
        have hlt : i < 50 := gl_in (n := 50) rfl (by omega) (by omega) c_14
        refine lv_aload_n hx hb dX5_gallery_44 rfl (lv_at hl 0 rfl) ?_
        refine va_get (D := G.1) (ci := 5) (v := .ref (a 7)) (C := RX5) (T := TX5) (N := 21) hx hb hts i_X5_gallery_X5 hown hK.1 hP 0 rfl rfl 20 (by decide) f36 (fun _ h9 => h9) rfl dX5_gallery_45 ?_
        refine lv_iload_n hx hb dX5_gallery_48 rfl (lv_at hl 1 rfl) ?_
        refine lv_iconst (v := 0) hx hb dX5_gallery_49 (by decide) ?_
        obtain ⟨w53, hw53⟩ : ∃ w : Int32, w = 0 := ⟨_, rfl⟩
        refine g_top (y := w53) hw53.symm ?_
        refine g_iast hx hb hK.1 hP hD hS 7 0 rfl rfl (i := i) (by omega) (by decide) dX5_gallery_50 (fun H locs hP hD hS => ?_)
        obtain ⟨t54, ht54⟩ : ∃ u_ : MdS, u_ = mRd t (upd t.read i w53) := ⟨_, rfl⟩
        have hP : va_P G.1 vwCl (wMd a G.2.1 G.2.2.1 t54) H := by
          rw [ht54]
          exact hP
        have hD : va_D A (wMd a G.2.1 G.2.2.1 t54) := by
          rw [ht54]
          exact hD
        refine lv_iinc (v := nI (i + 1)) (lv' := [(1, .int (nI (i + 1))), (0, .ref (a 0))]) hx hb dX5_gallery_51 hl (k := 1) rfl (nI_1 i) (by decide) rfl (fun ls hl => ?_)
        refine lv_goto (tgt := 38) hx hb dX5_gallery_54 (by decide) ?_
        exact ih_38 (i + 1) t54 hlt (by rw [ht54, hw53, ht, mRd_rd, mRd_mRd, lsF_s rfl]) (by omega) _ _ hP hD hS ls (lv_sub hl [1, 0] rfl)
  exact lp_38 ((50 - 0) + 1) 0 t13 (Nat.zero_le _) (by rw [lsF_0]; rfl) (Nat.lt_succ_self _) _ _ hP hD hS ls (lv_sub hl [1, 0] rfl)
