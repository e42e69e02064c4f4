set_option maxHeartbeats 4000000 in
set_option maxRecDepth 100000 in
theorem lw_best {p : Program} {l : Launch} {e : Env} {s : State} {mm : MethodId} {below : List Frame} {meth : Method} {c : Code} {b9 L9 k9 r0 q0 : Nat} {xs : Nat → Int32} (C0 : lw_At p s mm meth c b9 L9 xs) {G : gG} (hK : gK G s) {A : Nat → Prop} (hbA : ¬ A b9) (hL : L9 ≤ 3072) (hi9 : k9 + 6 ≤ L9) {H : Heap} {locs : List Loc} (hI : lwI G A r0 q0 H) (hS : va_S A s.heap H locs) {ls : Array Slot} (hl : lv_has ls 4 [(0, .ref b9), (1, .ref r0), (2, .ref q0), (3, .int (nI k9))])
    (kk : ∀ (H : Heap) (locs : List Loc), lwI G A r0 q0 H → va_S A s.heap H locs → ∀ ls : Array Slot, lv_has ls 4 [(0, .ref b9), (1, .ref r0), (2, .ref q0), (3, .int (nI k9))] → W p l e room_1 s mm #[Value.ref b9] below meth c H locs 52 2332 (lw_Z below #[Value.ref b9] s) (F0 mm 827 ls [])) : W p l e room_1 s mm #[Value.ref b9] below meth c H locs 52 2332 (lw_Z below #[Value.ref b9] s) (F0 mm 470 ls []) := by
  obtain ⟨hx, hb, hr, hml, hown, hts0, hX, hbl, hlocks, hgv⟩ := id C0
  have hown : s.vm.findClass RL = some mm.cls := hown
  have hts : ∀ w ∈ wsL_law, w.before #[Value.ref b9] s = true := fun w h => hts0 w (wsL_law_in w h)
  obtain ⟨r, b, f, i, j, a, d, q, tr, sc, u, m0, m1, ke, g, h, ga, m, er, eq, hP, hD, hR⟩ := hI
  subst er
  subst eq
  obtain ⟨Z, n, k, N, cN, ⟨hZ, z1, z2⟩, ⟨n1, n2, n3⟩, ⟨k0, k1, k2⟩, ⟨p1, p2, p3⟩, ⟨c0, c1, c2⟩, hQ, hpl, -⟩ := rAll_q hR
  refine lv_aload_n hx hb dL_law_470 rfl (lv_at hl 1 rfl) ?_
  refine lv_aload_n hx hb dL_law_471 rfl (lv_at hl 0 rfl) ?_
  refine lv_iload_n hx hb dL_law_472 rfl (lv_at hl 3 rfl) ?_
  refine lv_iconst (v := 1) hx hb dL_law_473 (by decide) ?_
  refine lv_iadd hx hb dL_law_474 ?_
  refine g_top (y := nI (k9 + 1)) (nI_add k9 1) ?_
  refine va_sld hx hb hX hbl hbA hS (vp_in_nI (n := k9 + 1) (by omega) (by omega)) dL_law_475 ?_
  refine g_top (y := xs (k9 + 1)) (by rw [nI_clamp (by omega)]) ?_
  refine lv_aload_n hx hb dL_law_476 rfl (lv_at hl 0 rfl) ?_
  refine lv_iload_n hx hb dL_law_477 rfl (lv_at hl 3 rfl) ?_
  refine lv_iconst (v := 2) hx hb dL_law_478 (by decide) ?_
  refine lv_iadd hx hb dL_law_479 ?_
  refine g_top (y := nI (k9 + 2)) (nI_add k9 2) ?_
  refine va_sld hx hb hX hbl hbA hS (vp_in_nI (n := k9 + 2) (by omega) (by omega)) dL_law_480 ?_
  refine g_top (y := xs (k9 + 2)) (by rw [nI_clamp (by omega)]) ?_
  refine lv_aload_n hx hb dL_law_481 rfl (lv_at hl 0 rfl) ?_
  refine lv_iload_n hx hb dL_law_482 rfl (lv_at hl 3 rfl) ?_
  refine lv_iconst (v := 3) hx hb dL_law_483 (by decide) ?_
  refine lv_iadd hx hb dL_law_484 ?_
  refine g_top (y := nI (k9 + 3)) (nI_add k9 3) ?_
  refine va_sld hx hb hX hbl hbA hS (vp_in_nI (n := k9 + 3) (by omega) (by omega)) dL_law_485 ?_
  refine g_top (y := xs (k9 + 3)) (by rw [nI_clamp (by omega)]) ?_
  refine lv_aload_n hx hb dL_law_486 rfl (lv_at hl 0 rfl) ?_
  refine lv_iload_n hx hb dL_law_487 rfl (lv_at hl 3 rfl) ?_
  refine lv_iconst (v := 4) hx hb dL_law_488 (by decide) ?_
  refine lv_iadd hx hb dL_law_489 ?_
  refine g_top (y := nI (k9 + 4)) (nI_add k9 4) ?_
  refine va_sld hx hb hX hbl hbA hS (vp_in_nI (n := k9 + 4) (by omega) (by omega)) dL_law_490 ?_
  refine g_top (y := xs (k9 + 4)) (by rw [nI_clamp (by omega)]) ?_
  refine lv_aload_n hx hb dL_law_491 rfl (lv_at hl 0 rfl) ?_
  refine lv_iload_n hx hb dL_law_492 rfl (lv_at hl 3 rfl) ?_
  refine lv_iconst (v := 5) hx hb dL_law_493 (by decide) ?_
  refine lv_iadd hx hb dL_law_494 ?_
  refine g_top (y := nI (k9 + 5)) (nI_add k9 5) ?_
  refine va_sld hx hb hX hbl hbA hS (vp_in_nI (n := k9 + 5) (by omega) (by omega)) dL_law_495 ?_
  refine g_top (y := xs (k9 + 5)) (by rw [nI_clamp (by omega)]) ?_
  refine g_wrL (As := [.int (xs (k9 + 1)), .int (xs (k9 + 2)), .int (xs (k9 + 3)), .int (xs (k9 + 4)), .int (xs (k9 + 5))]) (rest := []) (nL := 4) hx hb hml hown hts (c_X4_best l G r b f a d tr h n N (xs (k9 + 1)) (xs (k9 + 2)) (xs (k9 + 3)) (xs (k9 + 4)) (xs (k9 + 5)) n1 n2 p1 p2) gL_law_X4_best rfl h_X4_best ⟨(Nat.le_of_ble_eq_true rfl), (Nat.le_of_ble_eq_true rfl)⟩ hK hP hD hS P_ha P_ha (by simp only [List.map_append, ad_ri, ad_sc, ad_he, ad_mo, ad_ha, ad_ar, ad_aq]) (ci := 4) rfl rfl rfl rfl hl.1 rfl (Nat.le_of_ble_eq_true rfl) ⟨(Nat.le_of_ble_eq_true rfl), (Nat.le_of_ble_eq_true rfl)⟩ dL_law_496 (fun H locs hP hD hS => ?_)
  refine lv_aload_n hx hb dL_law_499 rfl (lv_at hl 2 rfl) ?_
  refine lv_aload_n hx hb dL_law_500 rfl (lv_at hl 0 rfl) ?_
  refine lv_iload_n hx hb dL_law_501 rfl (lv_at hl 3 rfl) ?_
  refine lv_iconst (v := 1) hx hb dL_law_502 (by decide) ?_
  refine lv_iadd hx hb dL_law_503 ?_
  refine g_top (y := nI (k9 + 1)) (nI_add k9 1) ?_
  refine va_sld hx hb hX hbl hbA hS (vp_in_nI (n := k9 + 1) (by omega) (by omega)) dL_law_504 ?_
  refine g_top (y := xs (k9 + 1)) (by rw [nI_clamp (by omega)]) ?_
  refine lv_aload_n hx hb dL_law_505 rfl (lv_at hl 0 rfl) ?_
  refine lv_iload_n hx hb dL_law_506 rfl (lv_at hl 3 rfl) ?_
  refine lv_iconst (v := 2) hx hb dL_law_507 (by decide) ?_
  refine lv_iadd hx hb dL_law_508 ?_
  refine g_top (y := nI (k9 + 2)) (nI_add k9 2) ?_
  refine va_sld hx hb hX hbl hbA hS (vp_in_nI (n := k9 + 2) (by omega) (by omega)) dL_law_509 ?_
  refine g_top (y := xs (k9 + 2)) (by rw [nI_clamp (by omega)]) ?_
  refine lv_aload_n hx hb dL_law_510 rfl (lv_at hl 0 rfl) ?_
  refine lv_iload_n hx hb dL_law_511 rfl (lv_at hl 3 rfl) ?_
  refine lv_iconst (v := 3) hx hb dL_law_512 (by decide) ?_
  refine lv_iadd hx hb dL_law_513 ?_
  refine g_top (y := nI (k9 + 3)) (nI_add k9 3) ?_
  refine va_sld hx hb hX hbl hbA hS (vp_in_nI (n := k9 + 3) (by omega) (by omega)) dL_law_514 ?_
  refine g_top (y := xs (k9 + 3)) (by rw [nI_clamp (by omega)]) ?_
  refine lv_aload_n hx hb dL_law_515 rfl (lv_at hl 0 rfl) ?_
  refine lv_iload_n hx hb dL_law_516 rfl (lv_at hl 3 rfl) ?_
  refine lv_iconst (v := 4) hx hb dL_law_517 (by decide) ?_
  refine lv_iadd hx hb dL_law_518 ?_
  refine g_top (y := nI (k9 + 4)) (nI_add k9 4) ?_
  refine va_sld hx hb hX hbl hbA hS (vp_in_nI (n := k9 + 4) (by omega) (by omega)) dL_law_519 ?_
  refine g_top (y := xs (k9 + 4)) (by rw [nI_clamp (by omega)]) ?_
  refine lv_aload_n hx hb dL_law_520 rfl (lv_at hl 0 rfl) ?_
  refine lv_iload_n hx hb dL_law_521 rfl (lv_at hl 3 rfl) ?_
  refine lv_iconst (v := 5) hx hb dL_law_522 (by decide) ?_
  refine lv_iadd hx hb dL_law_523 ?_
  refine g_top (y := nI (k9 + 5)) (nI_add k9 5) ?_
  refine va_sld hx hb hX hbl hbA hS (vp_in_nI (n := k9 + 5) (by omega) (by omega)) dL_law_524 ?_
  refine g_top (y := xs (k9 + 5)) (by rw [nI_clamp (by omega)]) ?_
  refine g_rdV (As := [.int (xs (k9 + 1)), .int (xs (k9 + 2)), .int (xs (k9 + 3)), .int (xs (k9 + 4)), .int (xs (k9 + 5))]) (rest := [_]) (nL := 4) hx hb hml hown hts (c_X5_best l G q m n N (xs (k9 + 1)) (xs (k9 + 2)) (xs (k9 + 3)) (xs (k9 + 4)) (xs (k9 + 5)) p3 p2 n3 n2 hpl) gL_law_X5_best rfl h_X5_best ⟨(Nat.le_of_ble_eq_true rfl), (Nat.le_of_ble_eq_true rfl)⟩ hK (vP_left (vP_perm P_md hP)) (ci := 5) rfl rfl rfl rfl hl.1 rfl (Nat.le_of_ble_eq_true rfl) ⟨(Nat.le_of_ble_eq_true rfl), (Nat.le_of_ble_eq_true rfl)⟩ dL_law_525 ?_
  refine lv_icmp_eq (tgt := 827) hx hb dL_law_528 (by decide) (fun _ => ?_) (fun c_1 => absurd (q_best hQ (xs (k9 + 1)) (xs (k9 + 2)) (xs (k9 + 3)) (xs (k9 + 4)) (xs (k9 + 5))) c_1)
  exact kk H locs ⟨_, _, _, _, _, _, _, _, _, _, _, _, _, _, _, _, _, _, rfl, rfl, hP, hD, z_be hR n N (xs (k9 + 1)) (xs (k9 + 2)) (xs (k9 + 3)) (xs (k9 + 4)) (xs (k9 + 5))⟩ hS ls hl

set_option maxHeartbeats 4000000 in
set_option maxRecDepth 100000 in
theorem lw_stills {p : Program} {l : Launch} {e : Env} {s : State} {mm : MethodId} {below : List Frame} {meth : Method} {c : Code} {b9 L9 k9 r0 q0 : Nat} {xs : Nat → Int32} (C0 : lw_At p s mm meth c b9 L9 xs) {G : gG} (hK : gK G s) {A : Nat → Prop} (hbA : ¬ A b9) (hL : L9 ≤ 3072) (hi9 : k9 + 6 ≤ L9) {H : Heap} {locs : List Loc} (hI : lwI G A r0 q0 H) (hS : va_S A s.heap H locs) {ls : Array Slot} (hl : lv_has ls 4 [(0, .ref b9), (1, .ref r0), (2, .ref q0), (3, .int (nI k9))])
    (kk : ∀ (H : Heap) (locs : List Loc), lwI G A r0 q0 H → va_S A s.heap H locs → ∀ ls : Array Slot, lv_has ls 4 [(0, .ref b9), (1, .ref r0), (2, .ref q0), (3, .int (nI k9))] → W p l e room_1 s mm #[Value.ref b9] below meth c H locs 52 2332 (lw_Z below #[Value.ref b9] s) (F0 mm 827 ls [])) : W p l e room_1 s mm #[Value.ref b9] below meth c H locs 52 2332 (lw_Z below #[Value.ref b9] s) (F0 mm 533 ls []) := by
  obtain ⟨hx, hb, hr, hml, hown, hts0, hX, hbl, hlocks, hgv⟩ := id C0
  have hown : s.vm.findClass RL = some mm.cls := hown
  have hts : ∀ w ∈ wsL_law, w.before #[Value.ref b9] s = true := fun w h => hts0 w (wsL_law_in w h)
  obtain ⟨r, b, f, i, j, a, d, q, tr, sc, u, m0, m1, ke, g, h, ga, m, er, eq, hP, hD, hR⟩ := hI
  subst er
  subst eq
  obtain ⟨Z, n, k, N, cN, ⟨hZ, z1, z2⟩, ⟨n1, n2, n3⟩, ⟨k0, k1, k2⟩, ⟨p1, p2, p3⟩, ⟨c0, c1, c2⟩, hQ, hpl, -⟩ := rAll_q hR
  refine lv_aload_n hx hb dL_law_533 rfl (lv_at hl 1 rfl) ?_
  refine lv_aload_n hx hb dL_law_534 rfl (lv_at hl 0 rfl) ?_
  refine lv_iload_n hx hb dL_law_535 rfl (lv_at hl 3 rfl) ?_
  refine lv_iconst (v := 1) hx hb dL_law_536 (by decide) ?_
  refine lv_iadd hx hb dL_law_537 ?_
  refine g_top (y := nI (k9 + 1)) (nI_add k9 1) ?_
  refine va_sld hx hb hX hbl hbA hS (vp_in_nI (n := k9 + 1) (by omega) (by omega)) dL_law_538 ?_
  refine g_top (y := xs (k9 + 1)) (by rw [nI_clamp (by omega)]) ?_
  refine g_wrL (As := [.int (xs (k9 + 1))]) (rest := []) (nL := 4) hx hb hml hown hts (c_X4_stills l G r b f a d tr h n (xs (k9 + 1)) n1 n2) gL_law_X4_stills rfl h_X4_stills ⟨(Nat.le_of_ble_eq_true rfl), (Nat.le_of_ble_eq_true rfl)⟩ hK hP hD hS P_ha P_ha (by simp only [List.map_append, ad_ri, ad_sc, ad_he, ad_mo, ad_ha, ad_ar, ad_aq]) (ci := 4) rfl rfl rfl rfl hl.1 rfl (Nat.le_of_ble_eq_true rfl) ⟨(Nat.le_of_ble_eq_true rfl), (Nat.le_of_ble_eq_true rfl)⟩ dL_law_539 (fun H locs hP hD hS => ?_)
  refine lv_aload_n hx hb dL_law_542 rfl (lv_at hl 2 rfl) ?_
  refine lv_aload_n hx hb dL_law_543 rfl (lv_at hl 0 rfl) ?_
  refine lv_iload_n hx hb dL_law_544 rfl (lv_at hl 3 rfl) ?_
  refine lv_iconst (v := 1) hx hb dL_law_545 (by decide) ?_
  refine lv_iadd hx hb dL_law_546 ?_
  refine g_top (y := nI (k9 + 1)) (nI_add k9 1) ?_
  refine va_sld hx hb hX hbl hbA hS (vp_in_nI (n := k9 + 1) (by omega) (by omega)) dL_law_547 ?_
  refine g_top (y := xs (k9 + 1)) (by rw [nI_clamp (by omega)]) ?_
  refine g_rdV (As := [.int (xs (k9 + 1))]) (rest := [_]) (nL := 4) hx hb hml hown hts (c_X5_stills l G q m n (xs (k9 + 1)) n3 n2 hpl) gL_law_X5_stills rfl h_X5_stills ⟨(Nat.le_of_ble_eq_true rfl), (Nat.le_of_ble_eq_true rfl)⟩ hK (vP_left (vP_perm P_md hP)) (ci := 5) rfl rfl rfl rfl hl.1 rfl (Nat.le_of_ble_eq_true rfl) ⟨(Nat.le_of_ble_eq_true rfl), (Nat.le_of_ble_eq_true rfl)⟩ dL_law_548 ?_
  refine lv_icmp_eq (tgt := 827) hx hb dL_law_551 (by decide) (fun _ => ?_) (fun c_1 => absurd (q_stills hQ (xs (k9 + 1))) c_1)
  exact kk H locs ⟨_, _, _, _, _, _, _, _, _, _, _, _, _, _, _, _, _, _, rfl, rfl, hP, hD, z_stl hR n (xs (k9 + 1))⟩ hS ls hl

set_option maxHeartbeats 4000000 in
set_option maxRecDepth 100000 in
theorem lw_odds {p : Program} {l : Launch} {e : Env} {s : State} {mm : MethodId} {below : List Frame} {meth : Method} {c : Code} {b9 L9 k9 r0 q0 : Nat} {xs : Nat → Int32} (C0 : lw_At p s mm meth c b9 L9 xs) {G : gG} (hK : gK G s) {A : Nat → Prop} (hbA : ¬ A b9) (hL : L9 ≤ 3072) (hi9 : k9 + 6 ≤ L9) {H : Heap} {locs : List Loc} (hI : lwI G A r0 q0 H) (hS : va_S A s.heap H locs) {ls : Array Slot} (hl : lv_has ls 4 [(0, .ref b9), (1, .ref r0), (2, .ref q0), (3, .int (nI k9))])
    (kk : ∀ (H : Heap) (locs : List Loc), lwI G A r0 q0 H → va_S A s.heap H locs → ∀ ls : Array Slot, lv_has ls 4 [(0, .ref b9), (1, .ref r0), (2, .ref q0), (3, .int (nI k9))] → W p l e room_1 s mm #[Value.ref b9] below meth c H locs 52 2332 (lw_Z below #[Value.ref b9] s) (F0 mm 827 ls [])) : W p l e room_1 s mm #[Value.ref b9] below meth c H locs 52 2332 (lw_Z below #[Value.ref b9] s) (F0 mm 556 ls []) := by
  obtain ⟨hx, hb, hr, hml, hown, hts0, hX, hbl, hlocks, hgv⟩ := id C0
  have hown : s.vm.findClass RL = some mm.cls := hown
  have hts : ∀ w ∈ wsL_law, w.before #[Value.ref b9] s = true := fun w h => hts0 w (wsL_law_in w h)
  obtain ⟨r, b, f, i, j, a, d, q, tr, sc, u, m0, m1, ke, g, h, ga, m, er, eq, hP, hD, hR⟩ := hI
  subst er
  subst eq
  obtain ⟨Z, n, k, N, cN, ⟨hZ, z1, z2⟩, ⟨n1, n2, n3⟩, ⟨k0, k1, k2⟩, ⟨p1, p2, p3⟩, ⟨c0, c1, c2⟩, hQ, hpl, -⟩ := rAll_q hR
  refine lv_aload_n hx hb dL_law_556 rfl (lv_at hl 1 rfl) ?_
  refine lv_aload_n hx hb dL_law_557 rfl (lv_at hl 0 rfl) ?_
  refine lv_iload_n hx hb dL_law_558 rfl (lv_at hl 3 rfl) ?_
  refine lv_iconst (v := 1) hx hb dL_law_559 (by decide) ?_
  refine lv_iadd hx hb dL_law_560 ?_
  refine g_top (y := nI (k9 + 1)) (nI_add k9 1) ?_
  refine va_sld hx hb hX hbl hbA hS (vp_in_nI (n := k9 + 1) (by omega) (by omega)) dL_law_561 ?_
  refine g_top (y := xs (k9 + 1)) (by rw [nI_clamp (by omega)]) ?_
  refine lv_aload_n hx hb dL_law_562 rfl (lv_at hl 0 rfl) ?_
  refine lv_iload_n hx hb dL_law_563 rfl (lv_at hl 3 rfl) ?_
  refine lv_iconst (v := 2) hx hb dL_law_564 (by decide) ?_
  refine lv_iadd hx hb dL_law_565 ?_
  refine g_top (y := nI (k9 + 2)) (nI_add k9 2) ?_
  refine va_sld hx hb hX hbl hbA hS (vp_in_nI (n := k9 + 2) (by omega) (by omega)) dL_law_566 ?_
  refine g_top (y := xs (k9 + 2)) (by rw [nI_clamp (by omega)]) ?_
  refine lv_aload_n hx hb dL_law_567 rfl (lv_at hl 0 rfl) ?_
  refine lv_iload_n hx hb dL_law_568 rfl (lv_at hl 3 rfl) ?_
  refine lv_iconst (v := 3) hx hb dL_law_569 (by decide) ?_
  refine lv_iadd hx hb dL_law_570 ?_
  refine g_top (y := nI (k9 + 3)) (nI_add k9 3) ?_
  refine va_sld hx hb hX hbl hbA hS (vp_in_nI (n := k9 + 3) (by omega) (by omega)) dL_law_571 ?_
  refine g_top (y := xs (k9 + 3)) (by rw [nI_clamp (by omega)]) ?_
  refine lv_aload_n hx hb dL_law_572 rfl (lv_at hl 0 rfl) ?_
  refine lv_iload_n hx hb dL_law_573 rfl (lv_at hl 3 rfl) ?_
  refine lv_iconst (v := 4) hx hb dL_law_574 (by decide) ?_
  refine lv_iadd hx hb dL_law_575 ?_
  refine g_top (y := nI (k9 + 4)) (nI_add k9 4) ?_
  refine va_sld hx hb hX hbl hbA hS (vp_in_nI (n := k9 + 4) (by omega) (by omega)) dL_law_576 ?_
  refine g_top (y := xs (k9 + 4)) (by rw [nI_clamp (by omega)]) ?_
  refine g_rdV (As := [.int (xs (k9 + 1)), .int (xs (k9 + 2)), .int (xs (k9 + 3)), .int (xs (k9 + 4))]) (rest := []) (nL := 4) hx hb hml hown hts (c_X4_odds l G r b f a d tr h n (xs (k9 + 1)) (xs (k9 + 2)) (xs (k9 + 3)) (xs (k9 + 4)) n1 n2) gL_law_X4_odds rfl h_X4_odds ⟨(Nat.le_of_ble_eq_true rfl), (Nat.le_of_ble_eq_true rfl)⟩ hK (vP_left (vP_perm P_ha hP)) (ci := 4) rfl rfl rfl rfl hl.1 rfl (Nat.le_of_ble_eq_true rfl) ⟨(Nat.le_of_ble_eq_true rfl), (Nat.le_of_ble_eq_true rfl)⟩ dL_law_577 ?_
  refine lv_aload_n hx hb dL_law_580 rfl (lv_at hl 2 rfl) ?_
  refine lv_aload_n hx hb dL_law_581 rfl (lv_at hl 0 rfl) ?_
  refine lv_iload_n hx hb dL_law_582 rfl (lv_at hl 3 rfl) ?_
  refine lv_iconst (v := 1) hx hb dL_law_583 (by decide) ?_
  refine lv_iadd hx hb dL_law_584 ?_
  refine g_top (y := nI (k9 + 1)) (nI_add k9 1) ?_
  refine va_sld hx hb hX hbl hbA hS (vp_in_nI (n := k9 + 1) (by omega) (by omega)) dL_law_585 ?_
  refine g_top (y := xs (k9 + 1)) (by rw [nI_clamp (by omega)]) ?_
  refine lv_aload_n hx hb dL_law_586 rfl (lv_at hl 0 rfl) ?_
  refine lv_iload_n hx hb dL_law_587 rfl (lv_at hl 3 rfl) ?_
  refine lv_iconst (v := 2) hx hb dL_law_588 (by decide) ?_
  refine lv_iadd hx hb dL_law_589 ?_
  refine g_top (y := nI (k9 + 2)) (nI_add k9 2) ?_
  refine va_sld hx hb hX hbl hbA hS (vp_in_nI (n := k9 + 2) (by omega) (by omega)) dL_law_590 ?_
  refine g_top (y := xs (k9 + 2)) (by rw [nI_clamp (by omega)]) ?_
  refine lv_aload_n hx hb dL_law_591 rfl (lv_at hl 0 rfl) ?_
  refine lv_iload_n hx hb dL_law_592 rfl (lv_at hl 3 rfl) ?_
  refine lv_iconst (v := 3) hx hb dL_law_593 (by decide) ?_
  refine lv_iadd hx hb dL_law_594 ?_
  refine g_top (y := nI (k9 + 3)) (nI_add k9 3) ?_
  refine va_sld hx hb hX hbl hbA hS (vp_in_nI (n := k9 + 3) (by omega) (by omega)) dL_law_595 ?_
  refine g_top (y := xs (k9 + 3)) (by rw [nI_clamp (by omega)]) ?_
  refine lv_aload_n hx hb dL_law_596 rfl (lv_at hl 0 rfl) ?_
  refine lv_iload_n hx hb dL_law_597 rfl (lv_at hl 3 rfl) ?_
  refine lv_iconst (v := 4) hx hb dL_law_598 (by decide) ?_
  refine lv_iadd hx hb dL_law_599 ?_
  refine g_top (y := nI (k9 + 4)) (nI_add k9 4) ?_
  refine va_sld hx hb hX hbl hbA hS (vp_in_nI (n := k9 + 4) (by omega) (by omega)) dL_law_600 ?_
  refine g_top (y := xs (k9 + 4)) (by rw [nI_clamp (by omega)]) ?_
  refine g_rdV (As := [.int (xs (k9 + 1)), .int (xs (k9 + 2)), .int (xs (k9 + 3)), .int (xs (k9 + 4))]) (rest := [_]) (nL := 4) hx hb hml hown hts (c_X5_odds l G q m n (xs (k9 + 1)) (xs (k9 + 2)) (xs (k9 + 3)) (xs (k9 + 4)) n3 n2 hpl (q_odds hQ (xs (k9 + 1)) (xs (k9 + 2)) (xs (k9 + 3)) (xs (k9 + 4))).2) gL_law_X5_odds rfl h_X5_odds ⟨(Nat.le_of_ble_eq_true rfl), (Nat.le_of_ble_eq_true rfl)⟩ hK (vP_left (vP_perm P_md hP)) (ci := 5) rfl rfl rfl rfl hl.1 rfl (Nat.le_of_ble_eq_true rfl) ⟨(Nat.le_of_ble_eq_true rfl), (Nat.le_of_ble_eq_true rfl)⟩ dL_law_601 ?_
  refine lv_icmp_eq (tgt := 827) hx hb dL_law_604 (by decide) (fun _ => ?_) (fun c_1 => absurd ((q_odds hQ (xs (k9 + 1)) (xs (k9 + 2)) (xs (k9 + 3)) (xs (k9 + 4))).1) c_1)
  exact kk H locs ⟨_, _, _, _, _, _, _, _, _, _, _, _, _, _, _, _, _, _, rfl, rfl, hP, hD, hR⟩ hS ls hl

set_option maxHeartbeats 4000000 in
set_option maxRecDepth 100000 in
theorem lw_hears {p : Program} {l : Launch} {e : Env} {s : State} {mm : MethodId} {below : List Frame} {meth : Method} {c : Code} {b9 L9 k9 r0 q0 : Nat} {xs : Nat → Int32} (C0 : lw_At p s mm meth c b9 L9 xs) {G : gG} (hK : gK G s) {A : Nat → Prop} (hbA : ¬ A b9) (hL : L9 ≤ 3072) (hi9 : k9 + 6 ≤ L9) {H : Heap} {locs : List Loc} (hI : lwI G A r0 q0 H) (hS : va_S A s.heap H locs) {ls : Array Slot} (hl : lv_has ls 4 [(0, .ref b9), (1, .ref r0), (2, .ref q0), (3, .int (nI k9))])
    (kk : ∀ (H : Heap) (locs : List Loc), lwI G A r0 q0 H → va_S A s.heap H locs → ∀ ls : Array Slot, lv_has ls 4 [(0, .ref b9), (1, .ref r0), (2, .ref q0), (3, .int (nI k9))] → W p l e room_1 s mm #[Value.ref b9] below meth c H locs 52 2332 (lw_Z below #[Value.ref b9] s) (F0 mm 827 ls [])) : W p l e room_1 s mm #[Value.ref b9] below meth c H locs 52 2332 (lw_Z below #[Value.ref b9] s) (F0 mm 609 ls []) := by
  obtain ⟨hx, hb, hr, hml, hown, hts0, hX, hbl, hlocks, hgv⟩ := id C0
  have hown : s.vm.findClass RL = some mm.cls := hown
  have hts : ∀ w ∈ wsL_law, w.before #[Value.ref b9] s = true := fun w h => hts0 w (wsL_law_in w h)
  obtain ⟨r, b, f, i, j, a, d, q, tr, sc, u, m0, m1, ke, g, h, ga, m, er, eq, hP, hD, hR⟩ := hI
  subst er
  subst eq
  obtain ⟨Z, n, k, N, cN, ⟨hZ, z1, z2⟩, ⟨n1, n2, n3⟩, ⟨k0, k1, k2⟩, ⟨p1, p2, p3⟩, ⟨c0, c1, c2⟩, hQ, hpl, -⟩ := rAll_q hR
  refine lv_aload_n hx hb dL_law_609 rfl (lv_at hl 1 rfl) ?_
  refine lv_aload_n hx hb dL_law_610 rfl (lv_at hl 0 rfl) ?_
  refine lv_iload_n hx hb dL_law_611 rfl (lv_at hl 3 rfl) ?_
  refine lv_iconst (v := 1) hx hb dL_law_612 (by decide) ?_
  refine lv_iadd hx hb dL_law_613 ?_
  refine g_top (y := nI (k9 + 1)) (nI_add k9 1) ?_
  refine va_sld hx hb hX hbl hbA hS (vp_in_nI (n := k9 + 1) (by omega) (by omega)) dL_law_614 ?_
  refine g_top (y := xs (k9 + 1)) (by rw [nI_clamp (by omega)]) ?_
  refine lv_aload_n hx hb dL_law_615 rfl (lv_at hl 0 rfl) ?_
  refine lv_iload_n hx hb dL_law_616 rfl (lv_at hl 3 rfl) ?_
  refine lv_iconst (v := 2) hx hb dL_law_617 (by decide) ?_
  refine lv_iadd hx hb dL_law_618 ?_
  refine g_top (y := nI (k9 + 2)) (nI_add k9 2) ?_
  refine va_sld hx hb hX hbl hbA hS (vp_in_nI (n := k9 + 2) (by omega) (by omega)) dL_law_619 ?_
  refine g_top (y := xs (k9 + 2)) (by rw [nI_clamp (by omega)]) ?_
  refine lv_aload_n hx hb dL_law_620 rfl (lv_at hl 0 rfl) ?_
  refine lv_iload_n hx hb dL_law_621 rfl (lv_at hl 3 rfl) ?_
  refine lv_iconst (v := 3) hx hb dL_law_622 (by decide) ?_
  refine lv_iadd hx hb dL_law_623 ?_
  refine g_top (y := nI (k9 + 3)) (nI_add k9 3) ?_
  refine va_sld hx hb hX hbl hbA hS (vp_in_nI (n := k9 + 3) (by omega) (by omega)) dL_law_624 ?_
  refine g_top (y := xs (k9 + 3)) (by rw [nI_clamp (by omega)]) ?_
  refine g_wrL (As := [.int (xs (k9 + 1)), .int (xs (k9 + 2)), .int (xs (k9 + 3))]) (rest := []) (nL := 4) hx hb hml hown hts (c_X4_hears l G r b f a d tr u h cN (xs (k9 + 1)) (xs (k9 + 2)) (xs (k9 + 3)) c1 c0) gL_law_X4_hears rfl h_X4_hears ⟨(Nat.le_of_ble_eq_true rfl), (Nat.le_of_ble_eq_true rfl)⟩ hK hP hD hS P_heha P_heha (by simp only [List.map_append, ad_ri, ad_sc, ad_he, ad_mo, ad_ha, ad_ar, ad_aq]) (ci := 4) rfl rfl rfl rfl hl.1 rfl (Nat.le_of_ble_eq_true rfl) ⟨(Nat.le_of_ble_eq_true rfl), (Nat.le_of_ble_eq_true rfl)⟩ dL_law_625 (fun H locs hP hD hS => ?_)
  refine lv_aload_n hx hb dL_law_628 rfl (lv_at hl 2 rfl) ?_
  refine lv_aload_n hx hb dL_law_629 rfl (lv_at hl 0 rfl) ?_
  refine lv_iload_n hx hb dL_law_630 rfl (lv_at hl 3 rfl) ?_
  refine lv_iconst (v := 1) hx hb dL_law_631 (by decide) ?_
  refine lv_iadd hx hb dL_law_632 ?_
  refine g_top (y := nI (k9 + 1)) (nI_add k9 1) ?_
  refine va_sld hx hb hX hbl hbA hS (vp_in_nI (n := k9 + 1) (by omega) (by omega)) dL_law_633 ?_
  refine g_top (y := xs (k9 + 1)) (by rw [nI_clamp (by omega)]) ?_
  refine lv_aload_n hx hb dL_law_634 rfl (lv_at hl 0 rfl) ?_
  refine lv_iload_n hx hb dL_law_635 rfl (lv_at hl 3 rfl) ?_
  refine lv_iconst (v := 2) hx hb dL_law_636 (by decide) ?_
  refine lv_iadd hx hb dL_law_637 ?_
  refine g_top (y := nI (k9 + 2)) (nI_add k9 2) ?_
  refine va_sld hx hb hX hbl hbA hS (vp_in_nI (n := k9 + 2) (by omega) (by omega)) dL_law_638 ?_
  refine g_top (y := xs (k9 + 2)) (by rw [nI_clamp (by omega)]) ?_
  refine lv_aload_n hx hb dL_law_639 rfl (lv_at hl 0 rfl) ?_
  refine lv_iload_n hx hb dL_law_640 rfl (lv_at hl 3 rfl) ?_
  refine lv_iconst (v := 3) hx hb dL_law_641 (by decide) ?_
  refine lv_iadd hx hb dL_law_642 ?_
  refine g_top (y := nI (k9 + 3)) (nI_add k9 3) ?_
  refine va_sld hx hb hX hbl hbA hS (vp_in_nI (n := k9 + 3) (by omega) (by omega)) dL_law_643 ?_
  refine g_top (y := xs (k9 + 3)) (by rw [nI_clamp (by omega)]) ?_
  refine g_wrL (As := [.int (xs (k9 + 1)), .int (xs (k9 + 2)), .int (xs (k9 + 3))]) (rest := [_]) (nL := 4) hx hb hml hown hts (c_X5_hears l G q m cN (xs (k9 + 1)) (xs (k9 + 2)) (xs (k9 + 3)) c2 c0) gL_law_X5_hears rfl h_X5_hears ⟨(Nat.le_of_ble_eq_true rfl), (Nat.le_of_ble_eq_true rfl)⟩ hK hP hD hS P_md P_md (by rw [ad_md, ad_md]) (ci := 5) rfl rfl rfl rfl hl.1 rfl (Nat.le_of_ble_eq_true rfl) ⟨(Nat.le_of_ble_eq_true rfl), (Nat.le_of_ble_eq_true rfl)⟩ dL_law_644 (fun H locs hP hD hS => ?_)
  refine lv_icmp_eq (tgt := 827) hx hb dL_law_647 (by decide) (fun _ => ?_) (fun c_1 => absurd (z_hears hR c1 c0 (xs (k9 + 1)) (xs (k9 + 2)) (xs (k9 + 3))).1 c_1)
  exact kk H locs ⟨_, _, _, _, _, _, _, _, _, _, _, _, _, _, _, _, _, _, rfl, rfl, hP, hD, (z_hears hR c1 c0 (xs (k9 + 1)) (xs (k9 + 2)) (xs (k9 + 3))).2⟩ hS ls hl

set_option maxHeartbeats 4000000 in
set_option maxRecDepth 100000 in
theorem lw_forget {p : Program} {l : Launch} {e : Env} {s : State} {mm : MethodId} {below : List Frame} {meth : Method} {c : Code} {b9 L9 k9 r0 q0 : Nat} {xs : Nat → Int32} (C0 : lw_At p s mm meth c b9 L9 xs) {G : gG} (hK : gK G s) {A : Nat → Prop} (hbA : ¬ A b9) (hL : L9 ≤ 3072) (hi9 : k9 + 6 ≤ L9) {H : Heap} {locs : List Loc} (hI : lwI G A r0 q0 H) (hS : va_S A s.heap H locs) {ls : Array Slot} (hl : lv_has ls 4 [(0, .ref b9), (1, .ref r0), (2, .ref q0), (3, .int (nI k9))])
    (kk : ∀ (H : Heap) (locs : List Loc), lwI G A r0 q0 H → va_S A s.heap H locs → ∀ ls : Array Slot, lv_has ls 4 [(0, .ref b9), (1, .ref r0), (2, .ref q0), (3, .int (nI k9))] → W p l e room_1 s mm #[Value.ref b9] below meth c H locs 52 2332 (lw_Z below #[Value.ref b9] s) (F0 mm 827 ls [])) : W p l e room_1 s mm #[Value.ref b9] below meth c H locs 52 2332 (lw_Z below #[Value.ref b9] s) (F0 mm 652 ls []) := by
  obtain ⟨hx, hb, hr, hml, hown, hts0, hX, hbl, hlocks, hgv⟩ := id C0
  have hown : s.vm.findClass RL = some mm.cls := hown
  have hts : ∀ w ∈ wsL_law, w.before #[Value.ref b9] s = true := fun w h => hts0 w (wsL_law_in w h)
  obtain ⟨r, b, f, i, j, a, d, q, tr, sc, u, m0, m1, ke, g, h, ga, m, er, eq, hP, hD, hR⟩ := hI
  subst er
  subst eq
  obtain ⟨Z, n, k, N, cN, ⟨hZ, z1, z2⟩, ⟨n1, n2, n3⟩, ⟨k0, k1, k2⟩, ⟨p1, p2, p3⟩, ⟨c0, c1, c2⟩, hQ, hpl, -⟩ := rAll_q hR
  refine lv_aload_n hx hb dL_law_652 rfl (lv_at hl 1 rfl) ?_
  refine g_wrL (As := []) (rest := []) (nL := 4) hx hb hml hown hts (c_X4_forget l G r b f a d tr u) gL_law_X4_forget rfl h_X4_forget ⟨(Nat.le_of_ble_eq_true rfl), (Nat.le_of_ble_eq_true rfl)⟩ hK hP hD hS P_he P_he (by simp only [List.map_append, ad_ri, ad_sc, ad_he, ad_mo, ad_ha, ad_ar, ad_aq]) (ci := 4) rfl rfl rfl rfl hl.1 rfl (Nat.le_of_ble_eq_true rfl) ⟨(Nat.le_of_ble_eq_true rfl), (Nat.le_of_ble_eq_true rfl)⟩ dL_law_653 (fun H locs hP hD hS => ?_)
  refine lv_aload_n hx hb dL_law_656 rfl (lv_at hl 2 rfl) ?_
  refine g_wrL (As := []) (rest := [_]) (nL := 4) hx hb hml hown hts (c_X5_forget l G q m) gL_law_X5_forget rfl h_X5_forget ⟨(Nat.le_of_ble_eq_true rfl), (Nat.le_of_ble_eq_true rfl)⟩ hK hP hD hS P_md P_md (by rw [ad_md, ad_md]) (ci := 5) rfl rfl rfl rfl hl.1 rfl (Nat.le_of_ble_eq_true rfl) ⟨(Nat.le_of_ble_eq_true rfl), (Nat.le_of_ble_eq_true rfl)⟩ dL_law_657 (fun H locs hP hD hS => ?_)
  refine lv_icmp_eq (tgt := 827) hx hb dL_law_660 (by decide) (fun _ => ?_) (fun c_1 => absurd (z_forget hR).1 c_1)
  exact kk H locs ⟨_, _, _, _, _, _, _, _, _, _, _, _, _, _, _, _, _, _, rfl, rfl, hP, hD, (z_forget hR).2⟩ hS ls hl

set_option maxHeartbeats 4000000 in
set_option maxRecDepth 100000 in
theorem lw_guesses {p : Program} {l : Launch} {e : Env} {s : State} {mm : MethodId} {below : List Frame} {meth : Method} {c : Code} {b9 L9 k9 r0 q0 : Nat} {xs : Nat → Int32} (C0 : lw_At p s mm meth c b9 L9 xs) {G : gG} (hK : gK G s) {A : Nat → Prop} (hbA : ¬ A b9) (hL : L9 ≤ 3072) (hi9 : k9 + 6 ≤ L9) {H : Heap} {locs : List Loc} (hI : lwI G A r0 q0 H) (hS : va_S A s.heap H locs) {ls : Array Slot} (hl : lv_has ls 4 [(0, .ref b9), (1, .ref r0), (2, .ref q0), (3, .int (nI k9))])
    (kk : ∀ (H : Heap) (locs : List Loc), lwI G A r0 q0 H → va_S A s.heap H locs → ∀ ls : Array Slot, lv_has ls 4 [(0, .ref b9), (1, .ref r0), (2, .ref q0), (3, .int (nI k9))] → W p l e room_1 s mm #[Value.ref b9] below meth c H locs 52 2332 (lw_Z below #[Value.ref b9] s) (F0 mm 827 ls [])) : W p l e room_1 s mm #[Value.ref b9] below meth c H locs 52 2332 (lw_Z below #[Value.ref b9] s) (F0 mm 665 ls []) := by
  obtain ⟨hx, hb, hr, hml, hown, hts0, hX, hbl, hlocks, hgv⟩ := id C0
  have hown : s.vm.findClass RL = some mm.cls := hown
  have hts : ∀ w ∈ wsL_law, w.before #[Value.ref b9] s = true := fun w h => hts0 w (wsL_law_in w h)
  obtain ⟨r, b, f, i, j, a, d, q, tr, sc, u, m0, m1, ke, g, h, ga, m, er, eq, hP, hD, hR⟩ := hI
  subst er
  subst eq
  obtain ⟨Z, n, k, N, cN, ⟨hZ, z1, z2⟩, ⟨n1, n2, n3⟩, ⟨k0, k1, k2⟩, ⟨p1, p2, p3⟩, ⟨c0, c1, c2⟩, hQ, hpl, -⟩ := rAll_q hR
  have hu9 : ∀ i, i < cN → u.ats i = m.heard (3 * i) ∧ u.beh i = m.heard (3 * i + 1) ∧ u.the i = m.heard (3 * i + 2) := by
    obtain ⟨cc, hcc, g1, g2, g3⟩ := hR.2.1
    have e : cc = cN := (nI_eq (by omega) (by omega)).mp (g1.symm.trans c1)
    subst e
    exact g3
  refine lv_aload_n hx hb dL_law_665 rfl (lv_at hl 1 rfl) ?_
  refine lv_aload_n hx hb dL_law_666 rfl (lv_at hl 0 rfl) ?_
  refine lv_iload_n hx hb dL_law_667 rfl (lv_at hl 3 rfl) ?_
  refine lv_iconst (v := 1) hx hb dL_law_668 (by decide) ?_
  refine lv_iadd hx hb dL_law_669 ?_
  refine g_top (y := nI (k9 + 1)) (nI_add k9 1) ?_
  refine va_sld hx hb hX hbl hbA hS (vp_in_nI (n := k9 + 1) (by omega) (by omega)) dL_law_670 ?_
  refine g_top (y := xs (k9 + 1)) (by rw [nI_clamp (by omega)]) ?_
  refine g_rdV (As := [.int (xs (k9 + 1))]) (rest := []) (nL := 4) hx hb hml hown hts (c_X4_guesses l G r b f a d tr u h cN N (xs (k9 + 1)) c1 c0 p1 p2) gL_law_X4_guesses rfl h_X4_guesses ⟨(Nat.le_of_ble_eq_true rfl), (Nat.le_of_ble_eq_true rfl)⟩ hK (vP_left (vP_perm P_heha hP)) (ci := 4) rfl rfl rfl rfl hl.1 rfl (Nat.le_of_ble_eq_true rfl) ⟨(Nat.le_of_ble_eq_true rfl), (Nat.le_of_ble_eq_true rfl)⟩ dL_law_671 ?_
  refine lv_aload_n hx hb dL_law_674 rfl (lv_at hl 2 rfl) ?_
  refine lv_aload_n hx hb dL_law_675 rfl (lv_at hl 0 rfl) ?_
  refine lv_iload_n hx hb dL_law_676 rfl (lv_at hl 3 rfl) ?_
  refine lv_iconst (v := 1) hx hb dL_law_677 (by decide) ?_
  refine lv_iadd hx hb dL_law_678 ?_
  refine g_top (y := nI (k9 + 1)) (nI_add k9 1) ?_
  refine va_sld hx hb hX hbl hbA hS (vp_in_nI (n := k9 + 1) (by omega) (by omega)) dL_law_679 ?_
  refine g_top (y := xs (k9 + 1)) (by rw [nI_clamp (by omega)]) ?_
  refine g_rdV (As := [.int (xs (k9 + 1))]) (rest := [_]) (nL := 4) hx hb hml hown hts (c_X5_guesses l G q m cN N (xs (k9 + 1)) c2 c0 p3 p2 hpl) gL_law_X5_guesses rfl h_X5_guesses ⟨(Nat.le_of_ble_eq_true rfl), (Nat.le_of_ble_eq_true rfl)⟩ hK (vP_left (vP_perm P_md hP)) (ci := 5) rfl rfl rfl rfl hl.1 rfl (Nat.le_of_ble_eq_true rfl) ⟨(Nat.le_of_ble_eq_true rfl), (Nat.le_of_ble_eq_true rfl)⟩ dL_law_680 ?_
  refine lv_icmp_eq (tgt := 827) hx hb dL_law_683 (by decide) (fun _ => ?_) (fun c_1 => absurd (q_guesses hQ hu9 (xs (k9 + 1))) c_1)
  exact kk H locs ⟨_, _, _, _, _, _, _, _, _, _, _, _, _, _, _, _, _, _, rfl, rfl, hP, hD, hR⟩ hS ls hl

set_option maxHeartbeats 4000000 in
set_option maxRecDepth 100000 in
theorem lw_ask {p : Program} {l : Launch} {e : Env} {s : State} {mm : MethodId} {below : List Frame} {meth : Method} {c : Code} {b9 L9 k9 r0 q0 : Nat} {xs : Nat → Int32} (C0 : lw_At p s mm meth c b9 L9 xs) {G : gG} (hK : gK G s) {A : Nat → Prop} (hbA : ¬ A b9) (hL : L9 ≤ 3072) (hi9 : k9 + 6 ≤ L9) {H : Heap} {locs : List Loc} (hI : lwI G A r0 q0 H) (hS : va_S A s.heap H locs) {ls : Array Slot} (hl : lv_has ls 4 [(0, .ref b9), (1, .ref r0), (2, .ref q0), (3, .int (nI k9))])
    (kk : ∀ (H : Heap) (locs : List Loc), lwI G A r0 q0 H → va_S A s.heap H locs → ∀ ls : Array Slot, lv_has ls 4 [(0, .ref b9), (1, .ref r0), (2, .ref q0), (3, .int (nI k9))] → W p l e room_1 s mm #[Value.ref b9] below meth c H locs 52 2332 (lw_Z below #[Value.ref b9] s) (F0 mm 827 ls [])) : W p l e room_1 s mm #[Value.ref b9] below meth c H locs 52 2332 (lw_Z below #[Value.ref b9] s) (F0 mm 688 ls []) := by
  obtain ⟨hx, hb, hr, hml, hown, hts0, hX, hbl, hlocks, hgv⟩ := id C0
  have hown : s.vm.findClass RL = some mm.cls := hown
  have hts : ∀ w ∈ wsL_law, w.before #[Value.ref b9] s = true := fun w h => hts0 w (wsL_law_in w h)
  obtain ⟨r, b, f, i, j, a, d, q, tr, sc, u, m0, m1, ke, g, h, ga, m, er, eq, hP, hD, hR⟩ := hI
  subst er
  subst eq
  obtain ⟨Z, n, k, N, cN, ⟨hZ, z1, z2⟩, ⟨n1, n2, n3⟩, ⟨k0, k1, k2⟩, ⟨p1, p2, p3⟩, ⟨c0, c1, c2⟩, hQ, hpl, -⟩ := rAll_q hR
  have hu9 : ∀ i, i < cN → u.ats i = m.heard (3 * i) ∧ u.beh i = m.heard (3 * i + 1) ∧ u.the i = m.heard (3 * i + 2) := by
    obtain ⟨cc, hcc, g1, g2, g3⟩ := hR.2.1
    have e : cc = cN := (nI_eq (by omega) (by omega)).mp (g1.symm.trans c1)
    subst e
    exact g3
  refine lv_aload_n hx hb dL_law_688 rfl (lv_at hl 1 rfl) ?_
  refine lv_aload_n hx hb dL_law_689 rfl (lv_at hl 0 rfl) ?_
  refine lv_iload_n hx hb dL_law_690 rfl (lv_at hl 3 rfl) ?_
  refine lv_iconst (v := 1) hx hb dL_law_691 (by decide) ?_
  refine lv_iadd hx hb dL_law_692 ?_
  refine g_top (y := nI (k9 + 1)) (nI_add k9 1) ?_
  refine va_sld hx hb hX hbl hbA hS (vp_in_nI (n := k9 + 1) (by omega) (by omega)) dL_law_693 ?_
  refine g_top (y := xs (k9 + 1)) (by rw [nI_clamp (by omega)]) ?_
  refine g_wrL (As := [.int (xs (k9 + 1))]) (rest := []) (nL := 4) hx hb hml hown hts (c_X4_ask l G r b f a d tr u h ga cN N (xs (k9 + 1)) c1 c0 p1 p2) gL_law_X4_ask rfl h_X4_ask ⟨(Nat.le_of_ble_eq_true rfl), (Nat.le_of_ble_eq_true rfl)⟩ hK hP hD hS P_hega P_hega (by simp only [List.map_append, ad_ri, ad_sc, ad_he, ad_mo, ad_ha, ad_ar, ad_aq]) (ci := 4) rfl rfl rfl rfl hl.1 rfl (Nat.le_of_ble_eq_true rfl) ⟨(Nat.le_of_ble_eq_true rfl), (Nat.le_of_ble_eq_true rfl)⟩ dL_law_694 (fun H locs hP hD hS => ?_)
  refine lv_aload_n hx hb dL_law_697 rfl (lv_at hl 2 rfl) ?_
  refine lv_aload_n hx hb dL_law_698 rfl (lv_at hl 0 rfl) ?_
  refine lv_iload_n hx hb dL_law_699 rfl (lv_at hl 3 rfl) ?_
  refine lv_iconst (v := 1) hx hb dL_law_700 (by decide) ?_
  refine lv_iadd hx hb dL_law_701 ?_
  refine g_top (y := nI (k9 + 1)) (nI_add k9 1) ?_
  refine va_sld hx hb hX hbl hbA hS (vp_in_nI (n := k9 + 1) (by omega) (by omega)) dL_law_702 ?_
  refine g_top (y := xs (k9 + 1)) (by rw [nI_clamp (by omega)]) ?_
  refine g_rdV (As := [.int (xs (k9 + 1))]) (rest := [_]) (nL := 4) hx hb hml hown hts (c_X5_ask l G q m cN N (xs (k9 + 1)) c2 c0 p3 p2 hpl) gL_law_X5_ask rfl h_X5_ask ⟨(Nat.le_of_ble_eq_true rfl), (Nat.le_of_ble_eq_true rfl)⟩ hK (vP_left (vP_perm P_md hP)) (ci := 5) rfl rfl rfl rfl hl.1 rfl (Nat.le_of_ble_eq_true rfl) ⟨(Nat.le_of_ble_eq_true rfl), (Nat.le_of_ble_eq_true rfl)⟩ dL_law_703 ?_
  refine lv_icmp_eq (tgt := 827) hx hb dL_law_706 (by decide) (fun _ => ?_) (fun c_1 => absurd (q_ask hQ hu9 (xs (k9 + 1)) ga) c_1)
  exact kk H locs ⟨_, _, _, _, _, _, _, _, _, _, _, _, _, _, _, _, _, _, rfl, rfl, hP, hD, hR⟩ hS ls hl

set_option maxHeartbeats 4000000 in
set_option maxRecDepth 100000 in
theorem lw_mark {p : Program} {l : Launch} {e : Env} {s : State} {mm : MethodId} {below : List Frame} {meth : Method} {c : Code} {b9 L9 k9 r0 q0 : Nat} {xs : Nat → Int32} (C0 : lw_At p s mm meth c b9 L9 xs) {G : gG} (hK : gK G s) {A : Nat → Prop} (hbA : ¬ A b9) (hL : L9 ≤ 3072) (hi9 : k9 + 6 ≤ L9) {H : Heap} {locs : List Loc} (hI : lwI G A r0 q0 H) (hS : va_S A s.heap H locs) {ls : Array Slot} (hl : lv_has ls 4 [(0, .ref b9), (1, .ref r0), (2, .ref q0), (3, .int (nI k9))])
    (kk : ∀ (H : Heap) (locs : List Loc), lwI G A r0 q0 H → va_S A s.heap H locs → ∀ ls : Array Slot, lv_has ls 4 [(0, .ref b9), (1, .ref r0), (2, .ref q0), (3, .int (nI k9))] → W p l e room_1 s mm #[Value.ref b9] below meth c H locs 52 2332 (lw_Z below #[Value.ref b9] s) (F0 mm 827 ls [])) : W p l e room_1 s mm #[Value.ref b9] below meth c H locs 52 2332 (lw_Z below #[Value.ref b9] s) (F0 mm 711 ls []) := by
  obtain ⟨hx, hb, hr, hml, hown, hts0, hX, hbl, hlocks, hgv⟩ := id C0
  have hown : s.vm.findClass RL = some mm.cls := hown
  have hts : ∀ w ∈ wsL_law, w.before #[Value.ref b9] s = true := fun w h => hts0 w (wsL_law_in w h)
  obtain ⟨r, b, f, i, j, a, d, q, tr, sc, u, m0, m1, ke, g, h, ga, m, er, eq, hP, hD, hR⟩ := hI
  subst er
  subst eq
  obtain ⟨Z, n, k, N, cN, ⟨hZ, z1, z2⟩, ⟨n1, n2, n3⟩, ⟨k0, k1, k2⟩, ⟨p1, p2, p3⟩, ⟨c0, c1, c2⟩, hQ, hpl, -⟩ := rAll_q hR
  refine lv_aload_n hx hb dL_law_711 rfl (lv_at hl 1 rfl) ?_
  refine lv_aload_n hx hb dL_law_712 rfl (lv_at hl 0 rfl) ?_
  refine lv_iload_n hx hb dL_law_713 rfl (lv_at hl 3 rfl) ?_
  refine lv_iconst (v := 1) hx hb dL_law_714 (by decide) ?_
  refine lv_iadd hx hb dL_law_715 ?_
  refine g_top (y := nI (k9 + 1)) (nI_add k9 1) ?_
  refine va_sld hx hb hX hbl hbA hS (vp_in_nI (n := k9 + 1) (by omega) (by omega)) dL_law_716 ?_
  refine g_top (y := xs (k9 + 1)) (by rw [nI_clamp (by omega)]) ?_
  refine lv_aload_n hx hb dL_law_717 rfl (lv_at hl 0 rfl) ?_
  refine lv_iload_n hx hb dL_law_718 rfl (lv_at hl 3 rfl) ?_
  refine lv_iconst (v := 2) hx hb dL_law_719 (by decide) ?_
  refine lv_iadd hx hb dL_law_720 ?_
  refine g_top (y := nI (k9 + 2)) (nI_add k9 2) ?_
  refine va_sld hx hb hX hbl hbA hS (vp_in_nI (n := k9 + 2) (by omega) (by omega)) dL_law_721 ?_
  refine g_top (y := xs (k9 + 2)) (by rw [nI_clamp (by omega)]) ?_
  refine g_wrL (As := [.int (xs (k9 + 1)), .int (xs (k9 + 2))]) (rest := []) (nL := 4) hx hb hml hown hts (c_X4_mark l G r b f a d tr h n (xs (k9 + 1)) (xs (k9 + 2)) n1 n2) gL_law_X4_mark rfl h_X4_mark ⟨(Nat.le_of_ble_eq_true rfl), (Nat.le_of_ble_eq_true rfl)⟩ hK hP hD hS P_ha P_ha (by simp only [List.map_append, ad_ri, ad_sc, ad_he, ad_mo, ad_ha, ad_ar, ad_aq]) (ci := 4) rfl rfl rfl rfl hl.1 rfl (Nat.le_of_ble_eq_true rfl) ⟨(Nat.le_of_ble_eq_true rfl), (Nat.le_of_ble_eq_true rfl)⟩ dL_law_722 (fun H locs hP hD hS => ?_)
  refine lv_aload_n hx hb dL_law_725 rfl (lv_at hl 2 rfl) ?_
  refine lv_aload_n hx hb dL_law_726 rfl (lv_at hl 0 rfl) ?_
  refine lv_iload_n hx hb dL_law_727 rfl (lv_at hl 3 rfl) ?_
  refine lv_iconst (v := 1) hx hb dL_law_728 (by decide) ?_
  refine lv_iadd hx hb dL_law_729 ?_
  refine g_top (y := nI (k9 + 1)) (nI_add k9 1) ?_
  refine va_sld hx hb hX hbl hbA hS (vp_in_nI (n := k9 + 1) (by omega) (by omega)) dL_law_730 ?_
  refine g_top (y := xs (k9 + 1)) (by rw [nI_clamp (by omega)]) ?_
  refine lv_aload_n hx hb dL_law_731 rfl (lv_at hl 0 rfl) ?_
  refine lv_iload_n hx hb dL_law_732 rfl (lv_at hl 3 rfl) ?_
  refine lv_iconst (v := 2) hx hb dL_law_733 (by decide) ?_
  refine lv_iadd hx hb dL_law_734 ?_
  refine g_top (y := nI (k9 + 2)) (nI_add k9 2) ?_
  refine va_sld hx hb hX hbl hbA hS (vp_in_nI (n := k9 + 2) (by omega) (by omega)) dL_law_735 ?_
  refine g_top (y := xs (k9 + 2)) (by rw [nI_clamp (by omega)]) ?_
  refine g_wrL (As := [.int (xs (k9 + 1)), .int (xs (k9 + 2))]) (rest := [_]) (nL := 4) hx hb hml hown hts (c_X5_mark l G q m n (xs (k9 + 1)) (xs (k9 + 2)) n3 n2 hpl) gL_law_X5_mark rfl h_X5_mark ⟨(Nat.le_of_ble_eq_true rfl), (Nat.le_of_ble_eq_true rfl)⟩ hK hP hD hS P_md P_md (by rw [ad_md, ad_md]) (ci := 5) rfl rfl rfl rfl hl.1 rfl (Nat.le_of_ble_eq_true rfl) ⟨(Nat.le_of_ble_eq_true rfl), (Nat.le_of_ble_eq_true rfl)⟩ dL_law_736 (fun H locs hP hD hS => ?_)
  refine lv_icmp_eq (tgt := 827) hx hb dL_law_739 (by decide) (fun _ => ?_) (fun c_1 => absurd (z_mark hR (xs (k9 + 1)) (xs (k9 + 2))).1 c_1)
  exact kk H locs ⟨_, _, _, _, _, _, _, _, _, _, _, _, _, _, _, _, _, _, rfl, rfl, hP, hD, (z_mark hR (xs (k9 + 1)) (xs (k9 + 2))).2⟩ hS ls hl

set_option maxHeartbeats 4000000 in
set_option maxRecDepth 100000 in
theorem lw_keep {p : Program} {l : Launch} {e : Env} {s : State} {mm : MethodId} {below : List Frame} {meth : Method} {c : Code} {b9 L9 k9 r0 q0 : Nat} {xs : Nat → Int32} (C0 : lw_At p s mm meth c b9 L9 xs) {G : gG} (hK : gK G s) {A : Nat → Prop} (hbA : ¬ A b9) (hL : L9 ≤ 3072) (hi9 : k9 + 6 ≤ L9) {H : Heap} {locs : List Loc} (hI : lwI G A r0 q0 H) (hS : va_S A s.heap H locs) {ls : Array Slot} (hl : lv_has ls 4 [(0, .ref b9), (1, .ref r0), (2, .ref q0), (3, .int (nI k9))])
    (kk : ∀ (H : Heap) (locs : List Loc), lwI G A r0 q0 H → va_S A s.heap H locs → ∀ ls : Array Slot, lv_has ls 4 [(0, .ref b9), (1, .ref r0), (2, .ref q0), (3, .int (nI k9))] → W p l e room_1 s mm #[Value.ref b9] below meth c H locs 52 2332 (lw_Z below #[Value.ref b9] s) (F0 mm 827 ls [])) : W p l e room_1 s mm #[Value.ref b9] below meth c H locs 52 2332 (lw_Z below #[Value.ref b9] s) (F0 mm 744 ls []) := by
  obtain ⟨hx, hb, hr, hml, hown, hts0, hX, hbl, hlocks, hgv⟩ := id C0
  have hown : s.vm.findClass RL = some mm.cls := hown
  have hts : ∀ w ∈ wsL_law, w.before #[Value.ref b9] s = true := fun w h => hts0 w (wsL_law_in w h)
  obtain ⟨r, b, f, i, j, a, d, q, tr, sc, u, m0, m1, ke, g, h, ga, m, er, eq, hP, hD, hR⟩ := hI
  subst er
  subst eq
  obtain ⟨Z, n, k, N, cN, ⟨hZ, z1, z2⟩, ⟨n1, n2, n3⟩, ⟨k0, k1, k2⟩, ⟨p1, p2, p3⟩, ⟨c0, c1, c2⟩, hQ, hpl, -⟩ := rAll_q hR
  refine lv_aload_n hx hb dL_law_744 rfl (lv_at hl 1 rfl) ?_
  refine lv_aload_n hx hb dL_law_745 rfl (lv_at hl 0 rfl) ?_
  refine lv_iload_n hx hb dL_law_746 rfl (lv_at hl 3 rfl) ?_
  refine lv_iconst (v := 1) hx hb dL_law_747 (by decide) ?_
  refine lv_iadd hx hb dL_law_748 ?_
  refine g_top (y := nI (k9 + 1)) (nI_add k9 1) ?_
  refine va_sld hx hb hX hbl hbA hS (vp_in_nI (n := k9 + 1) (by omega) (by omega)) dL_law_749 ?_
  refine g_top (y := xs (k9 + 1)) (by rw [nI_clamp (by omega)]) ?_
  refine g_wrL (As := [.int (xs (k9 + 1))]) (rest := []) (nL := 4) hx hb hml hown hts (c_X4_keep l G r b f a d tr i j m0 m1 ke h (xs (k9 + 1))) gL_law_X4_keep rfl h_X4_keep ⟨(Nat.le_of_ble_eq_true rfl), (Nat.le_of_ble_eq_true rfl)⟩ hK hP hD hS P_im P_im (by simp only [List.map_append, ad_ri, ad_sc, ad_he, ad_mo, ad_ha, ad_ar, ad_aq]) (ci := 4) rfl rfl rfl rfl hl.1 rfl (Nat.le_of_ble_eq_true rfl) ⟨(Nat.le_of_ble_eq_true rfl), (Nat.le_of_ble_eq_true rfl)⟩ dL_law_750 (fun H locs hP hD hS => ?_)
  refine lv_aload_n hx hb dL_law_753 rfl (lv_at hl 2 rfl) ?_
  refine lv_aload_n hx hb dL_law_754 rfl (lv_at hl 0 rfl) ?_
  refine lv_iload_n hx hb dL_law_755 rfl (lv_at hl 3 rfl) ?_
  refine lv_iconst (v := 1) hx hb dL_law_756 (by decide) ?_
  refine lv_iadd hx hb dL_law_757 ?_
  refine g_top (y := nI (k9 + 1)) (nI_add k9 1) ?_
  refine va_sld hx hb hX hbl hbA hS (vp_in_nI (n := k9 + 1) (by omega) (by omega)) dL_law_758 ?_
  refine g_top (y := xs (k9 + 1)) (by rw [nI_clamp (by omega)]) ?_
  refine g_wrL (As := [.int (xs (k9 + 1))]) (rest := [_]) (nL := 4) hx hb hml hown hts (c_X5_keep l G q m (xs (k9 + 1))) gL_law_X5_keep rfl h_X5_keep ⟨(Nat.le_of_ble_eq_true rfl), (Nat.le_of_ble_eq_true rfl)⟩ hK hP hD hS P_md P_md (by rw [ad_md, ad_md]) (ci := 5) rfl rfl rfl rfl hl.1 rfl (Nat.le_of_ble_eq_true rfl) ⟨(Nat.le_of_ble_eq_true rfl), (Nat.le_of_ble_eq_true rfl)⟩ dL_law_759 (fun H locs hP hD hS => ?_)
  refine lv_icmp_eq (tgt := 827) hx hb dL_law_762 (by decide) (fun _ => ?_) (fun c_1 => absurd (z_keep hR (xs (k9 + 1))).1 c_1)
  exact kk H locs ⟨_, _, _, _, _, _, _, _, _, _, _, _, _, _, _, _, _, _, rfl, rfl, hP, hD, (z_keep hR (xs (k9 + 1))).2⟩ hS ls hl

set_option maxHeartbeats 4000000 in
set_option maxRecDepth 100000 in
theorem lw_back {p : Program} {l : Launch} {e : Env} {s : State} {mm : MethodId} {below : List Frame} {meth : Method} {c : Code} {b9 L9 k9 r0 q0 : Nat} {xs : Nat → Int32} (C0 : lw_At p s mm meth c b9 L9 xs) {G : gG} (hK : gK G s) {A : Nat → Prop} (hbA : ¬ A b9) (hL : L9 ≤ 3072) (hi9 : k9 + 6 ≤ L9) {H : Heap} {locs : List Loc} (hI : lwI G A r0 q0 H) (hS : va_S A s.heap H locs) {ls : Array Slot} (hl : lv_has ls 4 [(0, .ref b9), (1, .ref r0), (2, .ref q0), (3, .int (nI k9))])
    (kk : ∀ (H : Heap) (locs : List Loc), lwI G A r0 q0 H → va_S A s.heap H locs → ∀ ls : Array Slot, lv_has ls 4 [(0, .ref b9), (1, .ref r0), (2, .ref q0), (3, .int (nI k9))] → W p l e room_1 s mm #[Value.ref b9] below meth c H locs 52 2332 (lw_Z below #[Value.ref b9] s) (F0 mm 827 ls [])) : W p l e room_1 s mm #[Value.ref b9] below meth c H locs 52 2332 (lw_Z below #[Value.ref b9] s) (F0 mm 767 ls []) := by
  obtain ⟨hx, hb, hr, hml, hown, hts0, hX, hbl, hlocks, hgv⟩ := id C0
  have hown : s.vm.findClass RL = some mm.cls := hown
  have hts : ∀ w ∈ wsL_law, w.before #[Value.ref b9] s = true := fun w h => hts0 w (wsL_law_in w h)
  obtain ⟨r, b, f, i, j, a, d, q, tr, sc, u, m0, m1, ke, g, h, ga, m, er, eq, hP, hD, hR⟩ := hI
  subst er
  subst eq
  obtain ⟨Z, n, k, N, cN, ⟨hZ, z1, z2⟩, ⟨n1, n2, n3⟩, ⟨k0, k1, k2⟩, ⟨p1, p2, p3⟩, ⟨c0, c1, c2⟩, hQ, hpl, -⟩ := rAll_q hR
  refine lv_aload_n hx hb dL_law_767 rfl (lv_at hl 1 rfl) ?_
  refine lv_aload_n hx hb dL_law_768 rfl (lv_at hl 0 rfl) ?_
  refine lv_iload_n hx hb dL_law_769 rfl (lv_at hl 3 rfl) ?_
  refine lv_iconst (v := 1) hx hb dL_law_770 (by decide) ?_
  refine lv_iadd hx hb dL_law_771 ?_
  refine g_top (y := nI (k9 + 1)) (nI_add k9 1) ?_
  refine va_sld hx hb hX hbl hbA hS (vp_in_nI (n := k9 + 1) (by omega) (by omega)) dL_law_772 ?_
  refine g_top (y := xs (k9 + 1)) (by rw [nI_clamp (by omega)]) ?_
  refine g_wrL (As := [.int (xs (k9 + 1))]) (rest := []) (nL := 4) hx hb hml hown hts (c_X4_back l G r b f a d tr i j m0 m1 ke h (xs (k9 + 1))) gL_law_X4_back rfl h_X4_back ⟨(Nat.le_of_ble_eq_true rfl), (Nat.le_of_ble_eq_true rfl)⟩ hK hP hD hS P_im P_im (by simp only [List.map_append, ad_ri, ad_sc, ad_he, ad_mo, ad_ha, ad_ar, ad_aq]) (ci := 4) rfl rfl rfl rfl hl.1 rfl (Nat.le_of_ble_eq_true rfl) ⟨(Nat.le_of_ble_eq_true rfl), (Nat.le_of_ble_eq_true rfl)⟩ dL_law_773 (fun H locs hP hD hS => ?_)
  refine lv_aload_n hx hb dL_law_776 rfl (lv_at hl 2 rfl) ?_
  refine lv_aload_n hx hb dL_law_777 rfl (lv_at hl 0 rfl) ?_
  refine lv_iload_n hx hb dL_law_778 rfl (lv_at hl 3 rfl) ?_
  refine lv_iconst (v := 1) hx hb dL_law_779 (by decide) ?_
  refine lv_iadd hx hb dL_law_780 ?_
  refine g_top (y := nI (k9 + 1)) (nI_add k9 1) ?_
  refine va_sld hx hb hX hbl hbA hS (vp_in_nI (n := k9 + 1) (by omega) (by omega)) dL_law_781 ?_
  refine g_top (y := xs (k9 + 1)) (by rw [nI_clamp (by omega)]) ?_
  refine g_wrL (As := [.int (xs (k9 + 1))]) (rest := [_]) (nL := 4) hx hb hml hown hts (c_X5_back l G q m (xs (k9 + 1))) gL_law_X5_back rfl h_X5_back ⟨(Nat.le_of_ble_eq_true rfl), (Nat.le_of_ble_eq_true rfl)⟩ hK hP hD hS P_md P_md (by rw [ad_md, ad_md]) (ci := 5) rfl rfl rfl rfl hl.1 rfl (Nat.le_of_ble_eq_true rfl) ⟨(Nat.le_of_ble_eq_true rfl), (Nat.le_of_ble_eq_true rfl)⟩ dL_law_782 (fun H locs hP hD hS => ?_)
  refine lv_icmp_eq (tgt := 827) hx hb dL_law_785 (by decide) (fun _ => ?_) (fun c_1 => absurd (z_back hR (xs (k9 + 1))).1 c_1)
  exact kk H locs ⟨_, _, _, _, _, _, _, _, _, _, _, _, _, _, _, _, _, _, rfl, rfl, hP, hD, (z_back hR (xs (k9 + 1))).2⟩ hS ls hl

set_option maxHeartbeats 4000000 in
set_option maxRecDepth 100000 in
theorem lw_count {p : Program} {l : Launch} {e : Env} {s : State} {mm : MethodId} {below : List Frame} {meth : Method} {c : Code} {b9 L9 k9 r0 q0 : Nat} {xs : Nat → Int32} (C0 : lw_At p s mm meth c b9 L9 xs) {G : gG} (hK : gK G s) {A : Nat → Prop} (hbA : ¬ A b9) (hL : L9 ≤ 3072) (hi9 : k9 + 6 ≤ L9) {H : Heap} {locs : List Loc} (hI : lwI G A r0 q0 H) (hS : va_S A s.heap H locs) {ls : Array Slot} (hl : lv_has ls 4 [(0, .ref b9), (1, .ref r0), (2, .ref q0), (3, .int (nI k9))])
    (kk : ∀ (H : Heap) (locs : List Loc), lwI G A r0 q0 H → va_S A s.heap H locs → ∀ ls : Array Slot, lv_has ls 4 [(0, .ref b9), (1, .ref r0), (2, .ref q0), (3, .int (nI k9))] → W p l e room_1 s mm #[Value.ref b9] below meth c H locs 52 2332 (lw_Z below #[Value.ref b9] s) (F0 mm 827 ls [])) : W p l e room_1 s mm #[Value.ref b9] below meth c H locs 52 2332 (lw_Z below #[Value.ref b9] s) (F0 mm 790 ls []) := by
  obtain ⟨hx, hb, hr, hml, hown, hts0, hX, hbl, hlocks, hgv⟩ := id C0
  have hown : s.vm.findClass RL = some mm.cls := hown
  have hts : ∀ w ∈ wsL_law, w.before #[Value.ref b9] s = true := fun w h => hts0 w (wsL_law_in w h)
  obtain ⟨r, b, f, i, j, a, d, q, tr, sc, u, m0, m1, ke, g, h, ga, m, er, eq, hP, hD, hR⟩ := hI
  subst er
  subst eq
  obtain ⟨Z, n, k, N, cN, ⟨hZ, z1, z2⟩, ⟨n1, n2, n3⟩, ⟨k0, k1, k2⟩, ⟨p1, p2, p3⟩, ⟨c0, c1, c2⟩, hQ, hpl, -⟩ := rAll_q hR
  refine lv_aload_n hx hb dL_law_790 rfl (lv_at hl 1 rfl) ?_
  refine lv_aload_n hx hb dL_law_791 rfl (lv_at hl 0 rfl) ?_
  refine lv_iload_n hx hb dL_law_792 rfl (lv_at hl 3 rfl) ?_
  refine lv_iconst (v := 1) hx hb dL_law_793 (by decide) ?_
  refine lv_iadd hx hb dL_law_794 ?_
  refine g_top (y := nI (k9 + 1)) (nI_add k9 1) ?_
  refine va_sld hx hb hX hbl hbA hS (vp_in_nI (n := k9 + 1) (by omega) (by omega)) dL_law_795 ?_
  refine g_top (y := xs (k9 + 1)) (by rw [nI_clamp (by omega)]) ?_
  refine g_rdV (As := [.int (xs (k9 + 1))]) (rest := []) (nL := 4) hx hb hml hown hts (c_X4_count l G r b f a d tr sc u h (xs (k9 + 1))) gL_law_X4_count rfl h_X4_count ⟨(Nat.le_of_ble_eq_true rfl), (Nat.le_of_ble_eq_true rfl)⟩ hK (vP_left (vP_perm P_co hP)) (ci := 4) rfl rfl rfl rfl hl.1 rfl (Nat.le_of_ble_eq_true rfl) ⟨(Nat.le_of_ble_eq_true rfl), (Nat.le_of_ble_eq_true rfl)⟩ dL_law_796 ?_
  refine lv_aload_n hx hb dL_law_799 rfl (lv_at hl 2 rfl) ?_
  refine lv_aload_n hx hb dL_law_800 rfl (lv_at hl 0 rfl) ?_
  refine lv_iload_n hx hb dL_law_801 rfl (lv_at hl 3 rfl) ?_
  refine lv_iconst (v := 1) hx hb dL_law_802 (by decide) ?_
  refine lv_iadd hx hb dL_law_803 ?_
  refine g_top (y := nI (k9 + 1)) (nI_add k9 1) ?_
  refine va_sld hx hb hX hbl hbA hS (vp_in_nI (n := k9 + 1) (by omega) (by omega)) dL_law_804 ?_
  refine g_top (y := xs (k9 + 1)) (by rw [nI_clamp (by omega)]) ?_
  refine g_rdV (As := [.int (xs (k9 + 1))]) (rest := [_]) (nL := 4) hx hb hml hown hts (c_X5_count l G q m (xs (k9 + 1))) gL_law_X5_count rfl h_X5_count ⟨(Nat.le_of_ble_eq_true rfl), (Nat.le_of_ble_eq_true rfl)⟩ hK (vP_left (vP_perm P_md hP)) (ci := 5) rfl rfl rfl rfl hl.1 rfl (Nat.le_of_ble_eq_true rfl) ⟨(Nat.le_of_ble_eq_true rfl), (Nat.le_of_ble_eq_true rfl)⟩ dL_law_805 ?_
  refine lv_icmp_eq (tgt := 827) hx hb dL_law_808 (by decide) (fun _ => ?_) (fun c_1 => absurd (q_count hR (xs (k9 + 1))) c_1)
  exact kk H locs ⟨_, _, _, _, _, _, _, _, _, _, _, _, _, _, _, _, _, _, rfl, rfl, hP, hD, hR⟩ hS ls hl

set_option maxHeartbeats 4000000 in
set_option maxRecDepth 100000 in
theorem lw_trace {p : Program} {l : Launch} {e : Env} {s : State} {mm : MethodId} {below : List Frame} {meth : Method} {c : Code} {b9 L9 k9 r0 q0 : Nat} {xs : Nat → Int32} (C0 : lw_At p s mm meth c b9 L9 xs) {G : gG} (hK : gK G s) {A : Nat → Prop} (hbA : ¬ A b9) (hL : L9 ≤ 3072) (hi9 : k9 + 6 ≤ L9) {H : Heap} {locs : List Loc} (hI : lwI G A r0 q0 H) (hS : va_S A s.heap H locs) {ls : Array Slot} (hl : lv_has ls 4 [(0, .ref b9), (1, .ref r0), (2, .ref q0), (3, .int (nI k9))])
    (kk : ∀ (H : Heap) (locs : List Loc), lwI G A r0 q0 H → va_S A s.heap H locs → ∀ ls : Array Slot, lv_has ls 4 [(0, .ref b9), (1, .ref r0), (2, .ref q0), (3, .int (nI k9))] → W p l e room_1 s mm #[Value.ref b9] below meth c H locs 52 2332 (lw_Z below #[Value.ref b9] s) (F0 mm 827 ls [])) : W p l e room_1 s mm #[Value.ref b9] below meth c H locs 52 2332 (lw_Z below #[Value.ref b9] s) (F0 mm 813 ls []) := by
  obtain ⟨hx, hb, hr, hml, hown, hts0, hX, hbl, hlocks, hgv⟩ := id C0
  have hown : s.vm.findClass RL = some mm.cls := hown
  have hts : ∀ w ∈ wsL_law, w.before #[Value.ref b9] s = true := fun w h => hts0 w (wsL_law_in w h)
  obtain ⟨r, b, f, i, j, a, d, q, tr, sc, u, m0, m1, ke, g, h, ga, m, er, eq, hP, hD, hR⟩ := hI
  subst er
  subst eq
  obtain ⟨Z, n, k, N, cN, ⟨hZ, z1, z2⟩, ⟨n1, n2, n3⟩, ⟨k0, k1, k2⟩, ⟨p1, p2, p3⟩, ⟨c0, c1, c2⟩, hQ, hpl, -⟩ := rAll_q hR
  refine lv_aload_n hx hb dL_law_813 rfl (lv_at hl 1 rfl) ?_
  refine g_wrL (As := []) (rest := []) (nL := 4) hx hb hml hown hts (c_X4_trace l G r b f a d tr) gL_law_X4_trace rfl h_X4_trace ⟨(Nat.le_of_ble_eq_true rfl), (Nat.le_of_ble_eq_true rfl)⟩ hK hP hD hS P_ri P_ri rfl (ci := 4) rfl rfl rfl rfl hl.1 rfl (Nat.le_of_ble_eq_true rfl) ⟨(Nat.le_of_ble_eq_true rfl), (Nat.le_of_ble_eq_true rfl)⟩ dL_law_814 (fun H locs hP hD hS => ?_)
  refine lv_aload_n hx hb dL_law_817 rfl (lv_at hl 2 rfl) ?_
  refine g_wrL (As := []) (rest := [_]) (nL := 4) hx hb hml hown hts (c_X5_trace l G q m) gL_law_X5_trace rfl h_X5_trace ⟨(Nat.le_of_ble_eq_true rfl), (Nat.le_of_ble_eq_true rfl)⟩ hK hP hD hS P_md P_md rfl (ci := 5) rfl rfl rfl rfl hl.1 rfl (Nat.le_of_ble_eq_true rfl) ⟨(Nat.le_of_ble_eq_true rfl), (Nat.le_of_ble_eq_true rfl)⟩ dL_law_818 (fun H locs hP hD hS => ?_)
  refine W.lcmp hx hb dL_law_821 ?_
  refine lv_if_eq (tgt := 827) hx hb dL_law_822 (by decide) (fun _ => ?_) (fun c_1 => absurd (by rw [hR.2.2.2.2.2]; exact lw_cmpE _) c_1)
  exact kk H locs ⟨_, _, _, _, _, _, _, _, _, _, _, _, _, _, _, _, _, _, rfl, rfl, hP, hD, hR⟩ hS ls hl
