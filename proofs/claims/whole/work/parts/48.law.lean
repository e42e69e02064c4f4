set_option maxHeartbeats 4000000 in
set_option maxRecDepth 100000 in
theorem lw_loop {p : Program} {l : Launch} {e : Env} {s : State} {mm : MethodId} {below : List Frame} {meth : Method} {c : Code} {b9 L9 r0 q0 : Nat} {xs : Nat → Int32} (C0 : lw_At p s mm meth c b9 L9 xs) {G : gG} (hK : gK G s) {A : Nat → Prop} (hAe : A = fun q => s.heap.size ≤ q) (hL : L9 ≤ 3072) : ∀ (fu k9 : Nat), L9 + 6 - k9 < fu → k9 ≤ L9 + 6 → ∀ (H : Heap) (locs : List Loc), lwI G A r0 q0 H → va_S A s.heap H locs → ∀ ls : Array Slot, lv_has ls 4 [(0, .ref b9), (1, .ref r0), (2, .ref q0), (3, .int (nI k9))] → W p l e room_1 s mm #[Value.ref b9] below meth c H locs 52 2332 (lw_Z below #[Value.ref b9] s) (F0 mm 18 ls []) := by
  obtain ⟨hx, hb, hr, hml, hown, hts0, hX, hbl, hlocks, hgv⟩ := id C0
  have hbA : ¬ A b9 := by
    rw [hAe]
    exact Nat.not_le.mpr hbl
  intro fu
  induction fu with
  | zero => exact fun _ h => absurd h (Nat.not_lt_zero _)
  | succ fu ih =>
    intro k9 hf hk9 H locs hI hS ls hl
    refine lv_iload_n hx hb dL_law_18 rfl (lv_at hl 3 rfl) ?_
    refine lv_aload_n hx hb dL_law_19 rfl (lv_at hl 0 rfl) ?_
    refine va_slen hx hb hX hbl hbA hS dL_law_20 ?_
    refine lv_bipush (v := 6) hx hb dL_law_21 (by decide) ?_
    refine lv_isub hx hb dL_law_23 ?_
    have hsub : (Int32.ofNat L9 - 6).toInt = (L9 : Int) - 6 := pk_sub_toInt (a := L9) (b := 6) (by omega) (by omega)
    refine lv_icmp_gt (tgt := 833) hx hb dL_law_24 (by decide) (fun c_1 => ?_) (fun c_1 => ?_)
    · refine lv_iconst (v := 1) hx hb dL_law_833 (by decide) ?_
      refine va_forget (fun q hq => by have := hS.2.2 q hq; rw [hAe] at this; exact this) ?_
      refine W.widen (k := 600000) (n := 7302250) (Nat.le_of_ble_eq_true rfl) (Nat.le_of_ble_eq_true rfl) ?_
      exact lw_ret hx hb hr hlocks dL_law_834
    · have hi9 : k9 + 6 ≤ L9 := by
        rcases Nat.lt_or_ge L9 (k9 + 6) with g | g
        · refine absurd ?_ c_1
          show Int32.ofNat L9 - 6 < nI k9
          rw [pn_lt, hsub, nI_toInt (by omega)]
          omega
        · exact g
      have kk : ∀ (H : Heap) (locs : List Loc), lwI G A r0 q0 H → va_S A s.heap H locs → ∀ ls : Array Slot, lv_has ls 4 [(0, .ref b9), (1, .ref r0), (2, .ref q0), (3, .int (nI k9))] → W p l e room_1 s mm #[Value.ref b9] below meth c H locs 52 2332 (lw_Z below #[Value.ref b9] s) (F0 mm 827 ls []) := by
        intro H locs hI hS ls hl
        refine lv_iinc (v := nI (k9 + 6)) (lv' := [(3, .int (nI (k9 + 6))), (0, .ref b9), (1, .ref r0), (2, .ref q0)]) hx hb dL_law_827 hl (k := 3) rfl (nI_add k9 6) (by decide) rfl (fun ls hl => ?_)
        refine lv_goto (tgt := 18) hx hb dL_law_830 (by decide) ?_
        exact ih (k9 + 6) (by omega) (by omega) H locs hI hS ls (lv_sub hl [1, 2, 3, 0] rfl)
      refine lv_aload_n hx hb dL_law_27 rfl (lv_at hl 0 rfl) ?_
      refine lv_iload_n hx hb dL_law_28 rfl (lv_at hl 3 rfl) ?_
      refine va_sld hx hb hX hbl hbA hS (vp_in_nI (n := k9) (by omega) (by omega)) dL_law_29 ?_
      refine lv_bipush (v := 31) hx hb dL_law_30 (by decide) ?_
      refine lv_iand hx hb dL_law_32 ?_
      obtain ⟨w, hw⟩ : ∃ w : Int32, w = xs (nI k9).toNatClampNeg &&& 31 := ⟨_, rfl⟩
      refine g_top (y := w) hw.symm ?_
      by_cases k_0 : w = 0
      · refine lv_tableIn (tgt := 144) hx hb dL_law_33 (by rw [k_0]; decide) (by rw [k_0]; decide) (by rw [k_0]; rfl) (by decide) ?_
        exact lw_type C0 hK hbA hL hi9 hI hS hl kk
      by_cases k_1 : w = 1
      · refine lv_tableIn (tgt := 167) hx hb dL_law_33 (by rw [k_1]; decide) (by rw [k_1]; decide) (by rw [k_1]; rfl) (by decide) ?_
        exact lw_clear C0 hK hbA hL hi9 hI hS hl kk
      by_cases k_2 : w = 2
      · refine lv_tableIn (tgt := 180) hx hb dL_law_33 (by rw [k_2]; decide) (by rw [k_2]; decide) (by rw [k_2]; rfl) (by decide) ?_
        exact lw_gallery C0 hK hbA hL hi9 hI hS hl kk
      by_cases k_3 : w = 3
      · refine lv_tableIn (tgt := 193) hx hb dL_law_33 (by rw [k_3]; decide) (by rw [k_3]; decide) (by rw [k_3]; rfl) (by decide) ?_
        exact lw_saying C0 hK hbA hL hi9 hI hS hl kk
      by_cases k_4 : w = 4
      · refine lv_tableIn (tgt := 226) hx hb dL_law_33 (by rw [k_4]; decide) (by rw [k_4]; decide) (by rw [k_4]; rfl) (by decide) ?_
        exact lw_place C0 hK hbA hL hi9 hI hS hl kk
      by_cases k_5 : w = 5
      · refine lv_tableIn (tgt := 259) hx hb dL_law_33 (by rw [k_5]; decide) (by rw [k_5]; decide) (by rw [k_5]; rfl) (by decide) ?_
        exact lw_ticks C0 hK hbA hL hi9 hI hS hl kk
      by_cases k_6 : w = 6
      · refine lv_tableIn (tgt := 282) hx hb dL_law_33 (by rw [k_6]; decide) (by rw [k_6]; decide) (by rw [k_6]; rfl) (by decide) ?_
        exact lw_says C0 hK hbA hL hi9 hI hS hl kk
      by_cases k_7 : w = 7
      · refine lv_tableIn (tgt := 335) hx hb dL_law_33 (by rw [k_7]; decide) (by rw [k_7]; decide) (by rw [k_7]; rfl) (by decide) ?_
        exact lw_hushes C0 hK hbA hL hi9 hI hS hl kk
      by_cases k_8 : w = 8
      · refine lv_tableIn (tgt := 358) hx hb dL_law_33 (by rw [k_8]; decide) (by rw [k_8]; decide) (by rw [k_8]; rfl) (by decide) ?_
        exact lw_undo C0 hK hbA hL hi9 hI hS hl kk
      by_cases k_9 : w = 9
      · refine lv_tableIn (tgt := 371) hx hb dL_law_33 (by rw [k_9]; decide) (by rw [k_9]; decide) (by rw [k_9]; rfl) (by decide) ?_
        exact lw_now C0 hK hbA hL hi9 hI hS hl kk
      by_cases k_10 : w = 10
      · refine lv_tableIn (tgt := 394) hx hb dL_law_33 (by rw [k_10]; decide) (by rw [k_10]; decide) (by rw [k_10]; rfl) (by decide) ?_
        exact lw_when C0 hK hbA hL hi9 hI hS hl kk
      by_cases k_11 : w = 11
      · refine lv_tableIn (tgt := 437) hx hb dL_law_33 (by rw [k_11]; decide) (by rw [k_11]; decide) (by rw [k_11]; rfl) (by decide) ?_
        exact lw_meet C0 hK hbA hL hi9 hI hS hl kk
      by_cases k_12 : w = 12
      · refine lv_tableIn (tgt := 470) hx hb dL_law_33 (by rw [k_12]; decide) (by rw [k_12]; decide) (by rw [k_12]; rfl) (by decide) ?_
        exact lw_best C0 hK hbA hL hi9 hI hS hl kk
      by_cases k_13 : w = 13
      · refine lv_tableIn (tgt := 533) hx hb dL_law_33 (by rw [k_13]; decide) (by rw [k_13]; decide) (by rw [k_13]; rfl) (by decide) ?_
        exact lw_stills C0 hK hbA hL hi9 hI hS hl kk
      by_cases k_14 : w = 14
      · refine lv_tableIn (tgt := 556) hx hb dL_law_33 (by rw [k_14]; decide) (by rw [k_14]; decide) (by rw [k_14]; rfl) (by decide) ?_
        exact lw_odds C0 hK hbA hL hi9 hI hS hl kk
      by_cases k_15 : w = 15
      · refine lv_tableIn (tgt := 609) hx hb dL_law_33 (by rw [k_15]; decide) (by rw [k_15]; decide) (by rw [k_15]; rfl) (by decide) ?_
        exact lw_hears C0 hK hbA hL hi9 hI hS hl kk
      by_cases k_16 : w = 16
      · refine lv_tableIn (tgt := 652) hx hb dL_law_33 (by rw [k_16]; decide) (by rw [k_16]; decide) (by rw [k_16]; rfl) (by decide) ?_
        exact lw_forget C0 hK hbA hL hi9 hI hS hl kk
      by_cases k_17 : w = 17
      · refine lv_tableIn (tgt := 665) hx hb dL_law_33 (by rw [k_17]; decide) (by rw [k_17]; decide) (by rw [k_17]; rfl) (by decide) ?_
        exact lw_guesses C0 hK hbA hL hi9 hI hS hl kk
      by_cases k_18 : w = 18
      · refine lv_tableIn (tgt := 688) hx hb dL_law_33 (by rw [k_18]; decide) (by rw [k_18]; decide) (by rw [k_18]; rfl) (by decide) ?_
        exact lw_ask C0 hK hbA hL hi9 hI hS hl kk
      by_cases k_19 : w = 19
      · refine lv_tableIn (tgt := 711) hx hb dL_law_33 (by rw [k_19]; decide) (by rw [k_19]; decide) (by rw [k_19]; rfl) (by decide) ?_
        exact lw_mark C0 hK hbA hL hi9 hI hS hl kk
      by_cases k_20 : w = 20
      · refine lv_tableIn (tgt := 744) hx hb dL_law_33 (by rw [k_20]; decide) (by rw [k_20]; decide) (by rw [k_20]; rfl) (by decide) ?_
        exact lw_keep C0 hK hbA hL hi9 hI hS hl kk
      by_cases k_21 : w = 21
      · refine lv_tableIn (tgt := 767) hx hb dL_law_33 (by rw [k_21]; decide) (by rw [k_21]; decide) (by rw [k_21]; rfl) (by decide) ?_
        exact lw_back C0 hK hbA hL hi9 hI hS hl kk
      by_cases k_22 : w = 22
      · refine lv_tableIn (tgt := 790) hx hb dL_law_33 (by rw [k_22]; decide) (by rw [k_22]; decide) (by rw [k_22]; rfl) (by decide) ?_
        exact lw_count C0 hK hbA hL hi9 hI hS hl kk
      by_cases k_23 : w = 23
      · refine lv_tableIn (tgt := 813) hx hb dL_law_33 (by rw [k_23]; decide) (by rw [k_23]; decide) (by rw [k_23]; rfl) (by decide) ?_
        exact lw_trace C0 hK hbA hL hi9 hI hS hl kk
      refine lv_tableOut (tgt := 827) hx hb dL_law_33 (by have n0 := lv_neT k_0 (a := 0) (by decide); have n1 := lv_neT k_1 (a := 1) (by decide); have n2 := lv_neT k_2 (a := 2) (by decide); have n3 := lv_neT k_3 (a := 3) (by decide); have n4 := lv_neT k_4 (a := 4) (by decide); have n5 := lv_neT k_5 (a := 5) (by decide); have n6 := lv_neT k_6 (a := 6) (by decide); have n7 := lv_neT k_7 (a := 7) (by decide); have n8 := lv_neT k_8 (a := 8) (by decide); have n9 := lv_neT k_9 (a := 9) (by decide); have n10 := lv_neT k_10 (a := 10) (by decide); have n11 := lv_neT k_11 (a := 11) (by decide); have n12 := lv_neT k_12 (a := 12) (by decide); have n13 := lv_neT k_13 (a := 13) (by decide); have n14 := lv_neT k_14 (a := 14) (by decide); have n15 := lv_neT k_15 (a := 15) (by decide); have n16 := lv_neT k_16 (a := 16) (by decide); have n17 := lv_neT k_17 (a := 17) (by decide); have n18 := lv_neT k_18 (a := 18) (by decide); have n19 := lv_neT k_19 (a := 19) (by decide); have n20 := lv_neT k_20 (a := 20) (by decide); have n21 := lv_neT k_21 (a := 21) (by decide); have n22 := lv_neT k_22 (a := 22) (by decide); have n23 := lv_neT k_23 (a := 23) (by decide); omega) (by decide) ?_
      exact kk H locs hI hS ls hl
