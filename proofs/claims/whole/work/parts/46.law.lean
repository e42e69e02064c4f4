set_option maxHeartbeats 4000000 in
set_option maxRecDepth 100000 in
theorem lw_type {p : Program} {l : Launch} {e : Env} {s : State} {mm : MethodId} {below : List Frame} {meth : Method} {c : Code} {b9 L9 k9 r0 q0 : Nat} {xs : Nat → Int32} (C0 : lw_At p s mm meth c b9 L9 xs) {G : gG} (hK : gK G s) {A : Nat → Prop} (hbA : ¬ A b9) (hL : L9 ≤ 3072) (hi9 : k9 + 6 ≤ L9) {H : Heap} {locs : List Loc} (hI : lwI G A r0 q0 H) (hS : va_S A s.heap H locs) {ls : Array Slot} (hl : lv_has ls 4 [(0, .ref b9), (1, .ref r0), (2, .ref q0), (3, .int (nI k9))])
    (kk : ∀ (H : Heap) (locs : List Loc), lwI G A r0 q0 H → va_S A s.heap H locs → ∀ ls : Array Slot, lv_has ls 4 [(0, .ref b9), (1, .ref r0), (2, .ref q0), (3, .int (nI k9))] → W p l e room_1 s mm #[Value.ref b9] below meth c H locs 52 2332 (lw_Z below #[Value.ref b9] s) (F0 mm 827 ls [])) : W p l e room_1 s mm #[Value.ref b9] below meth c H locs 52 2332 (lw_Z below #[Value.ref b9] s) (F0 mm 144 ls []) := by
  obtain ⟨hx, hb, hr, hml, hown, hts0, hX, hbl, hlocks, hgv⟩ := id C0
  have hown : s.vm.findClass RL = some mm.cls := hown
  have hts : ∀ w ∈ wsL_law, w.before #[Value.ref b9] s = true := fun w h => hts0 w (wsL_law_in w h)
  obtain ⟨r, b, f, i, j, a, d, q, tr, sc, u, m0, m1, ke, g, h, ga, m, er, eq, hP, hD, hR⟩ := hI
  subst er
  subst eq
  obtain ⟨Z, n, k, N, cN, ⟨hZ, z1, z2⟩, ⟨n1, n2, n3⟩, ⟨k0, k1, k2⟩, ⟨p1, p2, p3⟩, ⟨c0, c1, c2⟩, hQ, hpl, -⟩ := rAll_q hR
  refine lv_aload_n hx hb dL_law_144 rfl (lv_at hl 1 rfl) ?_
  refine lv_aload_n hx hb dL_law_145 rfl (lv_at hl 0 rfl) ?_
  refine lv_iload_n hx hb dL_law_146 rfl (lv_at hl 3 rfl) ?_
  refine lv_iconst (v := 1) hx hb dL_law_147 (by decide) ?_
  refine lv_iadd hx hb dL_law_148 ?_
  refine g_top (y := nI (k9 + 1)) (nI_add k9 1) ?_
  refine va_sld hx hb hX hbl hbA hS (vp_in_nI (n := k9 + 1) (by omega) (by omega)) dL_law_149 ?_
  refine g_top (y := xs (k9 + 1)) (by rw [nI_clamp (by omega)]) ?_
  refine g_wrL (As := [.int (xs (k9 + 1))]) (rest := []) (nL := 4) hx hb hml hown hts (c_X4_type l G r b f a d tr sc Z (xs (k9 + 1)) z1 hZ) gL_law_X4_type rfl h_X4_type ⟨(Nat.le_of_ble_eq_true rfl), (Nat.le_of_ble_eq_true rfl)⟩ hK hP hD hS P_sc P_sc (by simp only [List.map_append, ad_ri, ad_sc, ad_he, ad_mo, ad_ha, ad_ar, ad_aq]) (ci := 4) rfl rfl rfl rfl hl.1 rfl (Nat.le_of_ble_eq_true rfl) ⟨(Nat.le_of_ble_eq_true rfl), (Nat.le_of_ble_eq_true rfl)⟩ dL_law_150 (fun H locs hP hD hS => ?_)
  refine lv_aload_n hx hb dL_law_153 rfl (lv_at hl 2 rfl) ?_
  refine lv_aload_n hx hb dL_law_154 rfl (lv_at hl 0 rfl) ?_
  refine lv_iload_n hx hb dL_law_155 rfl (lv_at hl 3 rfl) ?_
  refine lv_iconst (v := 1) hx hb dL_law_156 (by decide) ?_
  refine lv_iadd hx hb dL_law_157 ?_
  refine g_top (y := nI (k9 + 1)) (nI_add k9 1) ?_
  refine va_sld hx hb hX hbl hbA hS (vp_in_nI (n := k9 + 1) (by omega) (by omega)) dL_law_158 ?_
  refine g_top (y := xs (k9 + 1)) (by rw [nI_clamp (by omega)]) ?_
  refine g_wrL (As := [.int (xs (k9 + 1))]) (rest := [_]) (nL := 4) hx hb hml hown hts (c_X5_type l G q m Z (xs (k9 + 1)) z2 hZ) gL_law_X5_type rfl h_X5_type ⟨(Nat.le_of_ble_eq_true rfl), (Nat.le_of_ble_eq_true rfl)⟩ hK hP hD hS P_md P_md (by rw [ad_md, ad_md]) (ci := 5) rfl rfl rfl rfl hl.1 rfl (Nat.le_of_ble_eq_true rfl) ⟨(Nat.le_of_ble_eq_true rfl), (Nat.le_of_ble_eq_true rfl)⟩ dL_law_159 (fun H locs hP hD hS => ?_)
  refine lv_icmp_eq (tgt := 827) hx hb dL_law_162 (by decide) (fun _ => ?_) (fun c_1 => absurd (z_type hR hZ z1 (xs (k9 + 1))).1 c_1)
  exact kk H locs ⟨_, _, _, _, _, _, _, _, _, _, _, _, _, _, _, _, _, _, rfl, rfl, hP, hD, (z_type hR hZ z1 (xs (k9 + 1))).2⟩ hS ls hl

set_option maxHeartbeats 4000000 in
set_option maxRecDepth 100000 in
theorem lw_clear {p : Program} {l : Launch} {e : Env} {s : State} {mm : MethodId} {below : List Frame} {meth : Method} {c : Code} {b9 L9 k9 r0 q0 : Nat} {xs : Nat → Int32} (C0 : lw_At p s mm meth c b9 L9 xs) {G : gG} (hK : gK G s) {A : Nat → Prop} (hbA : ¬ A b9) (hL : L9 ≤ 3072) (hi9 : k9 + 6 ≤ L9) {H : Heap} {locs : List Loc} (hI : lwI G A r0 q0 H) (hS : va_S A s.heap H locs) {ls : Array Slot} (hl : lv_has ls 4 [(0, .ref b9), (1, .ref r0), (2, .ref q0), (3, .int (nI k9))])
    (kk : ∀ (H : Heap) (locs : List Loc), lwI G A r0 q0 H → va_S A s.heap H locs → ∀ ls : Array Slot, lv_has ls 4 [(0, .ref b9), (1, .ref r0), (2, .ref q0), (3, .int (nI k9))] → W p l e room_1 s mm #[Value.ref b9] below meth c H locs 52 2332 (lw_Z below #[Value.ref b9] s) (F0 mm 827 ls [])) : W p l e room_1 s mm #[Value.ref b9] below meth c H locs 52 2332 (lw_Z below #[Value.ref b9] s) (F0 mm 167 ls []) := by
  obtain ⟨hx, hb, hr, hml, hown, hts0, hX, hbl, hlocks, hgv⟩ := id C0
  have hown : s.vm.findClass RL = some mm.cls := hown
  have hts : ∀ w ∈ wsL_law, w.before #[Value.ref b9] s = true := fun w h => hts0 w (wsL_law_in w h)
  obtain ⟨r, b, f, i, j, a, d, q, tr, sc, u, m0, m1, ke, g, h, ga, m, er, eq, hP, hD, hR⟩ := hI
  subst er
  subst eq
  obtain ⟨Z, n, k, N, cN, ⟨hZ, z1, z2⟩, ⟨n1, n2, n3⟩, ⟨k0, k1, k2⟩, ⟨p1, p2, p3⟩, ⟨c0, c1, c2⟩, hQ, hpl, -⟩ := rAll_q hR
  refine lv_aload_n hx hb dL_law_167 rfl (lv_at hl 1 rfl) ?_
  refine g_wrL (As := []) (rest := []) (nL := 4) hx hb hml hown hts (c_X4_clear l G r b f a d tr sc) gL_law_X4_clear rfl h_X4_clear ⟨(Nat.le_of_ble_eq_true rfl), (Nat.le_of_ble_eq_true rfl)⟩ hK hP hD hS P_sc P_sc (by simp only [List.map_append, ad_ri, ad_sc, ad_he, ad_mo, ad_ha, ad_ar, ad_aq]) (ci := 4) rfl rfl rfl rfl hl.1 rfl (Nat.le_of_ble_eq_true rfl) ⟨(Nat.le_of_ble_eq_true rfl), (Nat.le_of_ble_eq_true rfl)⟩ dL_law_168 (fun H locs hP hD hS => ?_)
  refine lv_aload_n hx hb dL_law_171 rfl (lv_at hl 2 rfl) ?_
  refine g_wrL (As := []) (rest := [_]) (nL := 4) hx hb hml hown hts (c_X5_clear l G q m) gL_law_X5_clear rfl h_X5_clear ⟨(Nat.le_of_ble_eq_true rfl), (Nat.le_of_ble_eq_true rfl)⟩ hK hP hD hS P_md P_md (by rw [ad_md, ad_md]) (ci := 5) rfl rfl rfl rfl hl.1 rfl (Nat.le_of_ble_eq_true rfl) ⟨(Nat.le_of_ble_eq_true rfl), (Nat.le_of_ble_eq_true rfl)⟩ dL_law_172 (fun H locs hP hD hS => ?_)
  refine lv_icmp_eq (tgt := 827) hx hb dL_law_175 (by decide) (fun _ => ?_) (fun c_1 => absurd (z_clear hR).1 c_1)
  exact kk H locs ⟨_, _, _, _, _, _, _, _, _, _, _, _, _, _, _, _, _, _, rfl, rfl, hP, hD, (z_clear hR).2⟩ hS ls hl

set_option maxHeartbeats 4000000 in
set_option maxRecDepth 100000 in
theorem lw_gallery {p : Program} {l : Launch} {e : Env} {s : State} {mm : MethodId} {below : List Frame} {meth : Method} {c : Code} {b9 L9 k9 r0 q0 : Nat} {xs : Nat → Int32} (C0 : lw_At p s mm meth c b9 L9 xs) {G : gG} (hK : gK G s) {A : Nat → Prop} (hbA : ¬ A b9) (hL : L9 ≤ 3072) (hi9 : k9 + 6 ≤ L9) {H : Heap} {locs : List Loc} (hI : lwI G A r0 q0 H) (hS : va_S A s.heap H locs) {ls : Array Slot} (hl : lv_has ls 4 [(0, .ref b9), (1, .ref r0), (2, .ref q0), (3, .int (nI k9))])
    (kk : ∀ (H : Heap) (locs : List Loc), lwI G A r0 q0 H → va_S A s.heap H locs → ∀ ls : Array Slot, lv_has ls 4 [(0, .ref b9), (1, .ref r0), (2, .ref q0), (3, .int (nI k9))] → W p l e room_1 s mm #[Value.ref b9] below meth c H locs 52 2332 (lw_Z below #[Value.ref b9] s) (F0 mm 827 ls [])) : W p l e room_1 s mm #[Value.ref b9] below meth c H locs 52 2332 (lw_Z below #[Value.ref b9] s) (F0 mm 180 ls []) := by
  obtain ⟨hx, hb, hr, hml, hown, hts0, hX, hbl, hlocks, hgv⟩ := id C0
  have hown : s.vm.findClass RL = some mm.cls := hown
  have hts : ∀ w ∈ wsL_law, w.before #[Value.ref b9] s = true := fun w h => hts0 w (wsL_law_in w h)
  obtain ⟨r, b, f, i, j, a, d, q, tr, sc, u, m0, m1, ke, g, h, ga, m, er, eq, hP, hD, hR⟩ := hI
  subst er
  subst eq
  obtain ⟨Z, n, k, N, cN, ⟨hZ, z1, z2⟩, ⟨n1, n2, n3⟩, ⟨k0, k1, k2⟩, ⟨p1, p2, p3⟩, ⟨c0, c1, c2⟩, hQ, hpl, -⟩ := rAll_q hR
  refine lv_aload_n hx hb dL_law_180 rfl (lv_at hl 1 rfl) ?_
  by_cases hneg : (rInto sc g).2.2 < 0
  · refine g_wrL (As := []) (rest := []) (nL := 4) hx hb hml hown hts (c_X4_gallery l G r b f a d tr sc u ke g Z z1 hZ hneg) gL_law_X4_gallery rfl h_X4_gallery ⟨(Nat.le_of_ble_eq_true rfl), (Nat.le_of_ble_eq_true rfl)⟩ hK hP hD hS P_dr P_dr (by simp only [List.map_append, ad_ri, ad_sc, ad_he, ad_mo, ad_ha, ad_ar, ad_aq]) (ci := 4) rfl rfl rfl rfl hl.1 rfl (Nat.le_of_ble_eq_true rfl) ⟨(Nat.le_of_ble_eq_true rfl), (Nat.le_of_ble_eq_true rfl)⟩ dL_law_181 (fun H locs hP hD hS => ?_)
    refine lv_aload_n hx hb dL_law_184 rfl (lv_at hl 2 rfl) ?_
    refine g_wrL (As := []) (rest := [.int (rInto sc g).2.2]) (nL := 4) hx hb hml hown hts (c_X5_gallery l G q m Z hZ z2) gL_law_X5_gallery rfl h_X5_gallery ⟨(Nat.le_of_ble_eq_true rfl), (Nat.le_of_ble_eq_true rfl)⟩ hK hP hD hS P_md P_md (by rw [ad_md, ad_md]) (ci := 5) rfl rfl rfl rfl hl.1 rfl (Nat.le_of_ble_eq_true rfl) ⟨(Nat.le_of_ble_eq_true rfl), (Nat.le_of_ble_eq_true rfl)⟩ dL_law_185 (fun H locs hP hD hS => ?_)
    refine lv_icmp_eq (tgt := 827) hx hb dL_law_188 (by decide) (fun _ => ?_) (fun c_1 => absurd (z_gal hR g).1 c_1)
    exact kk H locs ⟨_, _, _, _, _, _, _, _, _, _, _, _, _, _, _, _, _, _, rfl, rfl, hP, hD, (z_gal hR g).2.1 hneg⟩ hS ls hl
  · refine g_wrL (As := []) (rest := []) (nL := 4) hx hb hml hown hts (cT_X4_gallery l G r b f a d tr sc u ke g Z z1 hZ hneg) gL_law_X4_gallery rfl h_X4_gallery ⟨(Nat.le_of_ble_eq_true rfl), (Nat.le_of_ble_eq_true rfl)⟩ hK hP hD hS P_dr P_sw (by simp only [List.map_append, ad_ri, ad_sc, ad_he, ad_mo, ad_ha, ad_ar, ad_aq]) (ci := 4) rfl rfl rfl rfl hl.1 rfl (Nat.le_of_ble_eq_true rfl) ⟨(Nat.le_of_ble_eq_true rfl), (Nat.le_of_ble_eq_true rfl)⟩ dL_law_181 (fun H locs hP hD hS => ?_)
    refine lv_aload_n hx hb dL_law_184 rfl (lv_at hl 2 rfl) ?_
    refine g_wrL (As := []) (rest := [.int (rInto sc g).2.2]) (nL := 4) hx hb hml hown hts (c_X5_gallery l G q m Z hZ z2) gL_law_X5_gallery rfl h_X5_gallery ⟨(Nat.le_of_ble_eq_true rfl), (Nat.le_of_ble_eq_true rfl)⟩ hK hP hD hS P_md P_md (by rw [ad_md, ad_md]) (ci := 5) rfl rfl rfl rfl hl.1 rfl (Nat.le_of_ble_eq_true rfl) ⟨(Nat.le_of_ble_eq_true rfl), (Nat.le_of_ble_eq_true rfl)⟩ dL_law_185 (fun H locs hP hD hS => ?_)
    refine lv_icmp_eq (tgt := 827) hx hb dL_law_188 (by decide) (fun _ => ?_) (fun c_1 => absurd (z_gal hR g).1 c_1)
    exact kk H locs ⟨_, _, _, _, _, _, _, _, _, _, _, _, _, _, _, _, _, _, rfl, rfl, hP, hD, (z_gal hR g).2.2 hneg⟩ hS ls hl

set_option maxHeartbeats 4000000 in
set_option maxRecDepth 100000 in
theorem lw_saying {p : Program} {l : Launch} {e : Env} {s : State} {mm : MethodId} {below : List Frame} {meth : Method} {c : Code} {b9 L9 k9 r0 q0 : Nat} {xs : Nat → Int32} (C0 : lw_At p s mm meth c b9 L9 xs) {G : gG} (hK : gK G s) {A : Nat → Prop} (hbA : ¬ A b9) (hL : L9 ≤ 3072) (hi9 : k9 + 6 ≤ L9) {H : Heap} {locs : List Loc} (hI : lwI G A r0 q0 H) (hS : va_S A s.heap H locs) {ls : Array Slot} (hl : lv_has ls 4 [(0, .ref b9), (1, .ref r0), (2, .ref q0), (3, .int (nI k9))])
    (kk : ∀ (H : Heap) (locs : List Loc), lwI G A r0 q0 H → va_S A s.heap H locs → ∀ ls : Array Slot, lv_has ls 4 [(0, .ref b9), (1, .ref r0), (2, .ref q0), (3, .int (nI k9))] → W p l e room_1 s mm #[Value.ref b9] below meth c H locs 52 2332 (lw_Z below #[Value.ref b9] s) (F0 mm 827 ls [])) : W p l e room_1 s mm #[Value.ref b9] below meth c H locs 52 2332 (lw_Z below #[Value.ref b9] s) (F0 mm 193 ls []) := by
  obtain ⟨hx, hb, hr, hml, hown, hts0, hX, hbl, hlocks, hgv⟩ := id C0
  have hown : s.vm.findClass RL = some mm.cls := hown
  have hts : ∀ w ∈ wsL_law, w.before #[Value.ref b9] s = true := fun w h => hts0 w (wsL_law_in w h)
  obtain ⟨r, b, f, i, j, a, d, q, tr, sc, u, m0, m1, ke, g, h, ga, m, er, eq, hP, hD, hR⟩ := hI
  subst er
  subst eq
  obtain ⟨Z, n, k, N, cN, ⟨hZ, z1, z2⟩, ⟨n1, n2, n3⟩, ⟨k0, k1, k2⟩, ⟨p1, p2, p3⟩, ⟨c0, c1, c2⟩, hQ, hpl, -⟩ := rAll_q hR
  refine lv_aload_n hx hb dL_law_193 rfl (lv_at hl 1 rfl) ?_
  refine lv_aload_n hx hb dL_law_194 rfl (lv_at hl 0 rfl) ?_
  refine lv_iload_n hx hb dL_law_195 rfl (lv_at hl 3 rfl) ?_
  refine lv_iconst (v := 1) hx hb dL_law_196 (by decide) ?_
  refine lv_iadd hx hb dL_law_197 ?_
  refine g_top (y := nI (k9 + 1)) (nI_add k9 1) ?_
  refine va_sld hx hb hX hbl hbA hS (vp_in_nI (n := k9 + 1) (by omega) (by omega)) dL_law_198 ?_
  refine g_top (y := xs (k9 + 1)) (by rw [nI_clamp (by omega)]) ?_
  refine lv_aload_n hx hb dL_law_199 rfl (lv_at hl 0 rfl) ?_
  refine lv_iload_n hx hb dL_law_200 rfl (lv_at hl 3 rfl) ?_
  refine lv_iconst (v := 2) hx hb dL_law_201 (by decide) ?_
  refine lv_iadd hx hb dL_law_202 ?_
  refine g_top (y := nI (k9 + 2)) (nI_add k9 2) ?_
  refine va_sld hx hb hX hbl hbA hS (vp_in_nI (n := k9 + 2) (by omega) (by omega)) dL_law_203 ?_
  refine g_top (y := xs (k9 + 2)) (by rw [nI_clamp (by omega)]) ?_
  refine g_rdV (As := [.int (xs (k9 + 1)), .int (xs (k9 + 2))]) (rest := []) (nL := 4) hx hb hml hown hts (c_X4_saying l G r b f a d tr h n (xs (k9 + 1)) (xs (k9 + 2)) n1 n2) gL_law_X4_saying rfl h_X4_saying ⟨(Nat.le_of_ble_eq_true rfl), (Nat.le_of_ble_eq_true rfl)⟩ hK (vP_left (vP_perm P_ha hP)) (ci := 4) rfl rfl rfl rfl hl.1 rfl (Nat.le_of_ble_eq_true rfl) ⟨(Nat.le_of_ble_eq_true rfl), (Nat.le_of_ble_eq_true rfl)⟩ dL_law_204 ?_
  refine lv_aload_n hx hb dL_law_207 rfl (lv_at hl 2 rfl) ?_
  refine lv_aload_n hx hb dL_law_208 rfl (lv_at hl 0 rfl) ?_
  refine lv_iload_n hx hb dL_law_209 rfl (lv_at hl 3 rfl) ?_
  refine lv_iconst (v := 1) hx hb dL_law_210 (by decide) ?_
  refine lv_iadd hx hb dL_law_211 ?_
  refine g_top (y := nI (k9 + 1)) (nI_add k9 1) ?_
  refine va_sld hx hb hX hbl hbA hS (vp_in_nI (n := k9 + 1) (by omega) (by omega)) dL_law_212 ?_
  refine g_top (y := xs (k9 + 1)) (by rw [nI_clamp (by omega)]) ?_
  refine lv_aload_n hx hb dL_law_213 rfl (lv_at hl 0 rfl) ?_
  refine lv_iload_n hx hb dL_law_214 rfl (lv_at hl 3 rfl) ?_
  refine lv_iconst (v := 2) hx hb dL_law_215 (by decide) ?_
  refine lv_iadd hx hb dL_law_216 ?_
  refine g_top (y := nI (k9 + 2)) (nI_add k9 2) ?_
  refine va_sld hx hb hX hbl hbA hS (vp_in_nI (n := k9 + 2) (by omega) (by omega)) dL_law_217 ?_
  refine g_top (y := xs (k9 + 2)) (by rw [nI_clamp (by omega)]) ?_
  refine g_rdV (As := [.int (xs (k9 + 1)), .int (xs (k9 + 2))]) (rest := [_]) (nL := 4) hx hb hml hown hts (c_X5_saying l G q m n (xs (k9 + 1)) (xs (k9 + 2)) n3 n2 hpl) gL_law_X5_saying rfl h_X5_saying ⟨(Nat.le_of_ble_eq_true rfl), (Nat.le_of_ble_eq_true rfl)⟩ hK (vP_left (vP_perm P_md hP)) (ci := 5) rfl rfl rfl rfl hl.1 rfl (Nat.le_of_ble_eq_true rfl) ⟨(Nat.le_of_ble_eq_true rfl), (Nat.le_of_ble_eq_true rfl)⟩ dL_law_218 ?_
  refine lv_icmp_eq (tgt := 827) hx hb dL_law_221 (by decide) (fun _ => ?_) (fun c_1 => absurd (q_saying hQ (xs (k9 + 1)) (xs (k9 + 2))) c_1)
  exact kk H locs ⟨_, _, _, _, _, _, _, _, _, _, _, _, _, _, _, _, _, _, rfl, rfl, hP, hD, hR⟩ hS ls hl

set_option maxHeartbeats 4000000 in
set_option maxRecDepth 100000 in
theorem lw_place {p : Program} {l : Launch} {e : Env} {s : State} {mm : MethodId} {below : List Frame} {meth : Method} {c : Code} {b9 L9 k9 r0 q0 : Nat} {xs : Nat → Int32} (C0 : lw_At p s mm meth c b9 L9 xs) {G : gG} (hK : gK G s) {A : Nat → Prop} (hbA : ¬ A b9) (hL : L9 ≤ 3072) (hi9 : k9 + 6 ≤ L9) {H : Heap} {locs : List Loc} (hI : lwI G A r0 q0 H) (hS : va_S A s.heap H locs) {ls : Array Slot} (hl : lv_has ls 4 [(0, .ref b9), (1, .ref r0), (2, .ref q0), (3, .int (nI k9))])
    (kk : ∀ (H : Heap) (locs : List Loc), lwI G A r0 q0 H → va_S A s.heap H locs → ∀ ls : Array Slot, lv_has ls 4 [(0, .ref b9), (1, .ref r0), (2, .ref q0), (3, .int (nI k9))] → W p l e room_1 s mm #[Value.ref b9] below meth c H locs 52 2332 (lw_Z below #[Value.ref b9] s) (F0 mm 827 ls [])) : W p l e room_1 s mm #[Value.ref b9] below meth c H locs 52 2332 (lw_Z below #[Value.ref b9] s) (F0 mm 226 ls []) := by
  obtain ⟨hx, hb, hr, hml, hown, hts0, hX, hbl, hlocks, hgv⟩ := id C0
  have hown : s.vm.findClass RL = some mm.cls := hown
  have hts : ∀ w ∈ wsL_law, w.before #[Value.ref b9] s = true := fun w h => hts0 w (wsL_law_in w h)
  obtain ⟨r, b, f, i, j, a, d, q, tr, sc, u, m0, m1, ke, g, h, ga, m, er, eq, hP, hD, hR⟩ := hI
  subst er
  subst eq
  obtain ⟨Z, n, k, N, cN, ⟨hZ, z1, z2⟩, ⟨n1, n2, n3⟩, ⟨k0, k1, k2⟩, ⟨p1, p2, p3⟩, ⟨c0, c1, c2⟩, hQ, hpl, -⟩ := rAll_q hR
  refine lv_aload_n hx hb dL_law_226 rfl (lv_at hl 1 rfl) ?_
  refine lv_aload_n hx hb dL_law_227 rfl (lv_at hl 0 rfl) ?_
  refine lv_iload_n hx hb dL_law_228 rfl (lv_at hl 3 rfl) ?_
  refine lv_iconst (v := 1) hx hb dL_law_229 (by decide) ?_
  refine lv_iadd hx hb dL_law_230 ?_
  refine g_top (y := nI (k9 + 1)) (nI_add k9 1) ?_
  refine va_sld hx hb hX hbl hbA hS (vp_in_nI (n := k9 + 1) (by omega) (by omega)) dL_law_231 ?_
  refine g_top (y := xs (k9 + 1)) (by rw [nI_clamp (by omega)]) ?_
  refine lv_aload_n hx hb dL_law_232 rfl (lv_at hl 0 rfl) ?_
  refine lv_iload_n hx hb dL_law_233 rfl (lv_at hl 3 rfl) ?_
  refine lv_iconst (v := 2) hx hb dL_law_234 (by decide) ?_
  refine lv_iadd hx hb dL_law_235 ?_
  refine g_top (y := nI (k9 + 2)) (nI_add k9 2) ?_
  refine va_sld hx hb hX hbl hbA hS (vp_in_nI (n := k9 + 2) (by omega) (by omega)) dL_law_236 ?_
  refine g_top (y := xs (k9 + 2)) (by rw [nI_clamp (by omega)]) ?_
  refine g_wrL (As := [.int (xs (k9 + 1)), .int (xs (k9 + 2))]) (rest := []) (nL := 4) hx hb hml hown hts (c_X4_place l G r b f a d tr h n (xs (k9 + 1)) (xs (k9 + 2)) n1 n2) gL_law_X4_place rfl h_X4_place ⟨(Nat.le_of_ble_eq_true rfl), (Nat.le_of_ble_eq_true rfl)⟩ hK hP hD hS P_ha P_ha (by simp only [List.map_append, ad_ri, ad_sc, ad_he, ad_mo, ad_ha, ad_ar, ad_aq]) (ci := 4) rfl rfl rfl rfl hl.1 rfl (Nat.le_of_ble_eq_true rfl) ⟨(Nat.le_of_ble_eq_true rfl), (Nat.le_of_ble_eq_true rfl)⟩ dL_law_237 (fun H locs hP hD hS => ?_)
  refine lv_aload_n hx hb dL_law_240 rfl (lv_at hl 2 rfl) ?_
  refine lv_aload_n hx hb dL_law_241 rfl (lv_at hl 0 rfl) ?_
  refine lv_iload_n hx hb dL_law_242 rfl (lv_at hl 3 rfl) ?_
  refine lv_iconst (v := 1) hx hb dL_law_243 (by decide) ?_
  refine lv_iadd hx hb dL_law_244 ?_
  refine g_top (y := nI (k9 + 1)) (nI_add k9 1) ?_
  refine va_sld hx hb hX hbl hbA hS (vp_in_nI (n := k9 + 1) (by omega) (by omega)) dL_law_245 ?_
  refine g_top (y := xs (k9 + 1)) (by rw [nI_clamp (by omega)]) ?_
  refine lv_aload_n hx hb dL_law_246 rfl (lv_at hl 0 rfl) ?_
  refine lv_iload_n hx hb dL_law_247 rfl (lv_at hl 3 rfl) ?_
  refine lv_iconst (v := 2) hx hb dL_law_248 (by decide) ?_
  refine lv_iadd hx hb dL_law_249 ?_
  refine g_top (y := nI (k9 + 2)) (nI_add k9 2) ?_
  refine va_sld hx hb hX hbl hbA hS (vp_in_nI (n := k9 + 2) (by omega) (by omega)) dL_law_250 ?_
  refine g_top (y := xs (k9 + 2)) (by rw [nI_clamp (by omega)]) ?_
  refine g_rdV (As := [.int (xs (k9 + 1)), .int (xs (k9 + 2))]) (rest := [_]) (nL := 4) hx hb hml hown hts (c_X5_place l G q m n (xs (k9 + 1)) (xs (k9 + 2)) n3 n2 hpl) gL_law_X5_place rfl h_X5_place ⟨(Nat.le_of_ble_eq_true rfl), (Nat.le_of_ble_eq_true rfl)⟩ hK (vP_left (vP_perm P_md hP)) (ci := 5) rfl rfl rfl rfl hl.1 rfl (Nat.le_of_ble_eq_true rfl) ⟨(Nat.le_of_ble_eq_true rfl), (Nat.le_of_ble_eq_true rfl)⟩ dL_law_251 ?_
  refine lv_icmp_eq (tgt := 827) hx hb dL_law_254 (by decide) (fun _ => ?_) (fun c_1 => absurd (q_place hQ (xs (k9 + 1)) (xs (k9 + 2))) c_1)
  exact kk H locs ⟨_, _, _, _, _, _, _, _, _, _, _, _, _, _, _, _, _, _, rfl, rfl, hP, hD, z_pl hR n (xs (k9 + 1)) (xs (k9 + 2))⟩ hS ls hl

set_option maxHeartbeats 4000000 in
set_option maxRecDepth 100000 in
theorem lw_ticks {p : Program} {l : Launch} {e : Env} {s : State} {mm : MethodId} {below : List Frame} {meth : Method} {c : Code} {b9 L9 k9 r0 q0 : Nat} {xs : Nat → Int32} (C0 : lw_At p s mm meth c b9 L9 xs) {G : gG} (hK : gK G s) {A : Nat → Prop} (hbA : ¬ A b9) (hL : L9 ≤ 3072) (hi9 : k9 + 6 ≤ L9) {H : Heap} {locs : List Loc} (hI : lwI G A r0 q0 H) (hS : va_S A s.heap H locs) {ls : Array Slot} (hl : lv_has ls 4 [(0, .ref b9), (1, .ref r0), (2, .ref q0), (3, .int (nI k9))])
    (kk : ∀ (H : Heap) (locs : List Loc), lwI G A r0 q0 H → va_S A s.heap H locs → ∀ ls : Array Slot, lv_has ls 4 [(0, .ref b9), (1, .ref r0), (2, .ref q0), (3, .int (nI k9))] → W p l e room_1 s mm #[Value.ref b9] below meth c H locs 52 2332 (lw_Z below #[Value.ref b9] s) (F0 mm 827 ls [])) : W p l e room_1 s mm #[Value.ref b9] below meth c H locs 52 2332 (lw_Z below #[Value.ref b9] s) (F0 mm 259 ls []) := by
  obtain ⟨hx, hb, hr, hml, hown, hts0, hX, hbl, hlocks, hgv⟩ := id C0
  have hown : s.vm.findClass RL = some mm.cls := hown
  have hts : ∀ w ∈ wsL_law, w.before #[Value.ref b9] s = true := fun w h => hts0 w (wsL_law_in w h)
  obtain ⟨r, b, f, i, j, a, d, q, tr, sc, u, m0, m1, ke, g, h, ga, m, er, eq, hP, hD, hR⟩ := hI
  subst er
  subst eq
  obtain ⟨Z, n, k, N, cN, ⟨hZ, z1, z2⟩, ⟨n1, n2, n3⟩, ⟨k0, k1, k2⟩, ⟨p1, p2, p3⟩, ⟨c0, c1, c2⟩, hQ, hpl, -⟩ := rAll_q hR
  refine lv_aload_n hx hb dL_law_259 rfl (lv_at hl 1 rfl) ?_
  refine lv_aload_n hx hb dL_law_260 rfl (lv_at hl 0 rfl) ?_
  refine lv_iload_n hx hb dL_law_261 rfl (lv_at hl 3 rfl) ?_
  refine lv_iconst (v := 1) hx hb dL_law_262 (by decide) ?_
  refine lv_iadd hx hb dL_law_263 ?_
  refine g_top (y := nI (k9 + 1)) (nI_add k9 1) ?_
  refine va_sld hx hb hX hbl hbA hS (vp_in_nI (n := k9 + 1) (by omega) (by omega)) dL_law_264 ?_
  refine g_top (y := xs (k9 + 1)) (by rw [nI_clamp (by omega)]) ?_
  refine g_wrL (As := [.int (xs (k9 + 1))]) (rest := []) (nL := 4) hx hb hml hown hts (c_X4_ticks l G r b f a d tr h n k (xs (k9 + 1)) n1 n2 k1 k0) gL_law_X4_ticks rfl h_X4_ticks ⟨(Nat.le_of_ble_eq_true rfl), (Nat.le_of_ble_eq_true rfl)⟩ hK hP hD hS P_ha P_ha (by simp only [List.map_append, ad_ri, ad_sc, ad_he, ad_mo, ad_ha, ad_ar, ad_aq]) (ci := 4) rfl rfl rfl rfl hl.1 rfl (Nat.le_of_ble_eq_true rfl) ⟨(Nat.le_of_ble_eq_true rfl), (Nat.le_of_ble_eq_true rfl)⟩ dL_law_265 (fun H locs hP hD hS => ?_)
  refine lv_aload_n hx hb dL_law_268 rfl (lv_at hl 2 rfl) ?_
  refine lv_aload_n hx hb dL_law_269 rfl (lv_at hl 0 rfl) ?_
  refine lv_iload_n hx hb dL_law_270 rfl (lv_at hl 3 rfl) ?_
  refine lv_iconst (v := 1) hx hb dL_law_271 (by decide) ?_
  refine lv_iadd hx hb dL_law_272 ?_
  refine g_top (y := nI (k9 + 1)) (nI_add k9 1) ?_
  refine va_sld hx hb hX hbl hbA hS (vp_in_nI (n := k9 + 1) (by omega) (by omega)) dL_law_273 ?_
  refine g_top (y := xs (k9 + 1)) (by rw [nI_clamp (by omega)]) ?_
  refine g_wrL (As := [.int (xs (k9 + 1))]) (rest := [_]) (nL := 4) hx hb hml hown hts (c_X5_ticks l G q m n k (xs (k9 + 1)) n3 n2 k2 k0 hpl) gL_law_X5_ticks rfl h_X5_ticks ⟨(Nat.le_of_ble_eq_true rfl), (Nat.le_of_ble_eq_true rfl)⟩ hK hP hD hS P_md P_md (by rw [ad_md, ad_md]) (ci := 5) rfl rfl rfl rfl hl.1 rfl (Nat.le_of_ble_eq_true rfl) ⟨(Nat.le_of_ble_eq_true rfl), (Nat.le_of_ble_eq_true rfl)⟩ dL_law_274 (fun H locs hP hD hS => ?_)
  refine lv_icmp_eq (tgt := 827) hx hb dL_law_277 (by decide) (fun _ => ?_) (fun c_1 => absurd (z_ticks hR n1 n2 k1 k0 (xs (k9 + 1))).1 c_1)
  exact kk H locs ⟨_, _, _, _, _, _, _, _, _, _, _, _, _, _, _, _, _, _, rfl, rfl, hP, hD, (z_ticks hR n1 n2 k1 k0 (xs (k9 + 1))).2⟩ hS ls hl

set_option maxHeartbeats 4000000 in
set_option maxRecDepth 100000 in
theorem lw_says {p : Program} {l : Launch} {e : Env} {s : State} {mm : MethodId} {below : List Frame} {meth : Method} {c : Code} {b9 L9 k9 r0 q0 : Nat} {xs : Nat → Int32} (C0 : lw_At p s mm meth c b9 L9 xs) {G : gG} (hK : gK G s) {A : Nat → Prop} (hbA : ¬ A b9) (hL : L9 ≤ 3072) (hi9 : k9 + 6 ≤ L9) {H : Heap} {locs : List Loc} (hI : lwI G A r0 q0 H) (hS : va_S A s.heap H locs) {ls : Array Slot} (hl : lv_has ls 4 [(0, .ref b9), (1, .ref r0), (2, .ref q0), (3, .int (nI k9))])
    (kk : ∀ (H : Heap) (locs : List Loc), lwI G A r0 q0 H → va_S A s.heap H locs → ∀ ls : Array Slot, lv_has ls 4 [(0, .ref b9), (1, .ref r0), (2, .ref q0), (3, .int (nI k9))] → W p l e room_1 s mm #[Value.ref b9] below meth c H locs 52 2332 (lw_Z below #[Value.ref b9] s) (F0 mm 827 ls [])) : W p l e room_1 s mm #[Value.ref b9] below meth c H locs 52 2332 (lw_Z below #[Value.ref b9] s) (F0 mm 282 ls []) := by
  obtain ⟨hx, hb, hr, hml, hown, hts0, hX, hbl, hlocks, hgv⟩ := id C0
  have hown : s.vm.findClass RL = some mm.cls := hown
  have hts : ∀ w ∈ wsL_law, w.before #[Value.ref b9] s = true := fun w h => hts0 w (wsL_law_in w h)
  obtain ⟨r, b, f, i, j, a, d, q, tr, sc, u, m0, m1, ke, g, h, ga, m, er, eq, hP, hD, hR⟩ := hI
  subst er
  subst eq
  obtain ⟨Z, n, k, N, cN, ⟨hZ, z1, z2⟩, ⟨n1, n2, n3⟩, ⟨k0, k1, k2⟩, ⟨p1, p2, p3⟩, ⟨c0, c1, c2⟩, hQ, hpl, -⟩ := rAll_q hR
  refine lv_aload_n hx hb dL_law_282 rfl (lv_at hl 1 rfl) ?_
  refine lv_aload_n hx hb dL_law_283 rfl (lv_at hl 0 rfl) ?_
  refine lv_iload_n hx hb dL_law_284 rfl (lv_at hl 3 rfl) ?_
  refine lv_iconst (v := 1) hx hb dL_law_285 (by decide) ?_
  refine lv_iadd hx hb dL_law_286 ?_
  refine g_top (y := nI (k9 + 1)) (nI_add k9 1) ?_
  refine va_sld hx hb hX hbl hbA hS (vp_in_nI (n := k9 + 1) (by omega) (by omega)) dL_law_287 ?_
  refine g_top (y := xs (k9 + 1)) (by rw [nI_clamp (by omega)]) ?_
  refine lv_aload_n hx hb dL_law_288 rfl (lv_at hl 0 rfl) ?_
  refine lv_iload_n hx hb dL_law_289 rfl (lv_at hl 3 rfl) ?_
  refine lv_iconst (v := 2) hx hb dL_law_290 (by decide) ?_
  refine lv_iadd hx hb dL_law_291 ?_
  refine g_top (y := nI (k9 + 2)) (nI_add k9 2) ?_
  refine va_sld hx hb hX hbl hbA hS (vp_in_nI (n := k9 + 2) (by omega) (by omega)) dL_law_292 ?_
  refine g_top (y := xs (k9 + 2)) (by rw [nI_clamp (by omega)]) ?_
  refine lv_aload_n hx hb dL_law_293 rfl (lv_at hl 0 rfl) ?_
  refine lv_iload_n hx hb dL_law_294 rfl (lv_at hl 3 rfl) ?_
  refine lv_iconst (v := 3) hx hb dL_law_295 (by decide) ?_
  refine lv_iadd hx hb dL_law_296 ?_
  refine g_top (y := nI (k9 + 3)) (nI_add k9 3) ?_
  refine va_sld hx hb hX hbl hbA hS (vp_in_nI (n := k9 + 3) (by omega) (by omega)) dL_law_297 ?_
  refine g_top (y := xs (k9 + 3)) (by rw [nI_clamp (by omega)]) ?_
  refine lv_aload_n hx hb dL_law_298 rfl (lv_at hl 0 rfl) ?_
  refine lv_iload_n hx hb dL_law_299 rfl (lv_at hl 3 rfl) ?_
  refine lv_iconst (v := 4) hx hb dL_law_300 (by decide) ?_
  refine lv_iadd hx hb dL_law_301 ?_
  refine g_top (y := nI (k9 + 4)) (nI_add k9 4) ?_
  refine va_sld hx hb hX hbl hbA hS (vp_in_nI (n := k9 + 4) (by omega) (by omega)) dL_law_302 ?_
  refine g_top (y := xs (k9 + 4)) (by rw [nI_clamp (by omega)]) ?_
  refine g_wrL (As := [.int (xs (k9 + 1)), .int (xs (k9 + 2)), .int (xs (k9 + 3)), .int (xs (k9 + 4))]) (rest := []) (nL := 4) hx hb hml hown hts (c_X4_says l G r b f a d tr h n k (xs (k9 + 1)) (xs (k9 + 2)) (xs (k9 + 3)) (xs (k9 + 4)) n1 n2 k1 k0) gL_law_X4_says rfl h_X4_says ⟨(Nat.le_of_ble_eq_true rfl), (Nat.le_of_ble_eq_true rfl)⟩ hK hP hD hS P_ha P_ha (by simp only [List.map_append, ad_ri, ad_sc, ad_he, ad_mo, ad_ha, ad_ar, ad_aq]) (ci := 4) rfl rfl rfl rfl hl.1 rfl (Nat.le_of_ble_eq_true rfl) ⟨(Nat.le_of_ble_eq_true rfl), (Nat.le_of_ble_eq_true rfl)⟩ dL_law_303 (fun H locs hP hD hS => ?_)
  refine lv_aload_n hx hb dL_law_306 rfl (lv_at hl 2 rfl) ?_
  refine lv_aload_n hx hb dL_law_307 rfl (lv_at hl 0 rfl) ?_
  refine lv_iload_n hx hb dL_law_308 rfl (lv_at hl 3 rfl) ?_
  refine lv_iconst (v := 1) hx hb dL_law_309 (by decide) ?_
  refine lv_iadd hx hb dL_law_310 ?_
  refine g_top (y := nI (k9 + 1)) (nI_add k9 1) ?_
  refine va_sld hx hb hX hbl hbA hS (vp_in_nI (n := k9 + 1) (by omega) (by omega)) dL_law_311 ?_
  refine g_top (y := xs (k9 + 1)) (by rw [nI_clamp (by omega)]) ?_
  refine lv_aload_n hx hb dL_law_312 rfl (lv_at hl 0 rfl) ?_
  refine lv_iload_n hx hb dL_law_313 rfl (lv_at hl 3 rfl) ?_
  refine lv_iconst (v := 2) hx hb dL_law_314 (by decide) ?_
  refine lv_iadd hx hb dL_law_315 ?_
  refine g_top (y := nI (k9 + 2)) (nI_add k9 2) ?_
  refine va_sld hx hb hX hbl hbA hS (vp_in_nI (n := k9 + 2) (by omega) (by omega)) dL_law_316 ?_
  refine g_top (y := xs (k9 + 2)) (by rw [nI_clamp (by omega)]) ?_
  refine lv_aload_n hx hb dL_law_317 rfl (lv_at hl 0 rfl) ?_
  refine lv_iload_n hx hb dL_law_318 rfl (lv_at hl 3 rfl) ?_
  refine lv_iconst (v := 3) hx hb dL_law_319 (by decide) ?_
  refine lv_iadd hx hb dL_law_320 ?_
  refine g_top (y := nI (k9 + 3)) (nI_add k9 3) ?_
  refine va_sld hx hb hX hbl hbA hS (vp_in_nI (n := k9 + 3) (by omega) (by omega)) dL_law_321 ?_
  refine g_top (y := xs (k9 + 3)) (by rw [nI_clamp (by omega)]) ?_
  refine lv_aload_n hx hb dL_law_322 rfl (lv_at hl 0 rfl) ?_
  refine lv_iload_n hx hb dL_law_323 rfl (lv_at hl 3 rfl) ?_
  refine lv_iconst (v := 4) hx hb dL_law_324 (by decide) ?_
  refine lv_iadd hx hb dL_law_325 ?_
  refine g_top (y := nI (k9 + 4)) (nI_add k9 4) ?_
  refine va_sld hx hb hX hbl hbA hS (vp_in_nI (n := k9 + 4) (by omega) (by omega)) dL_law_326 ?_
  refine g_top (y := xs (k9 + 4)) (by rw [nI_clamp (by omega)]) ?_
  refine g_wrL (As := [.int (xs (k9 + 1)), .int (xs (k9 + 2)), .int (xs (k9 + 3)), .int (xs (k9 + 4))]) (rest := [_]) (nL := 4) hx hb hml hown hts (c_X5_says l G q m n k (xs (k9 + 1)) (xs (k9 + 2)) (xs (k9 + 3)) (xs (k9 + 4)) n3 n2 k2 k0) gL_law_X5_says rfl h_X5_says ⟨(Nat.le_of_ble_eq_true rfl), (Nat.le_of_ble_eq_true rfl)⟩ hK hP hD hS P_md P_md (by rw [ad_md, ad_md]) (ci := 5) rfl rfl rfl rfl hl.1 rfl (Nat.le_of_ble_eq_true rfl) ⟨(Nat.le_of_ble_eq_true rfl), (Nat.le_of_ble_eq_true rfl)⟩ dL_law_327 (fun H locs hP hD hS => ?_)
  refine lv_icmp_eq (tgt := 827) hx hb dL_law_330 (by decide) (fun _ => ?_) (fun c_1 => absurd (z_says hR n1 n2 k1 k0 (xs (k9 + 1)) (xs (k9 + 2)) (xs (k9 + 3)) (xs (k9 + 4))).1 c_1)
  exact kk H locs ⟨_, _, _, _, _, _, _, _, _, _, _, _, _, _, _, _, _, _, rfl, rfl, hP, hD, (z_says hR n1 n2 k1 k0 (xs (k9 + 1)) (xs (k9 + 2)) (xs (k9 + 3)) (xs (k9 + 4))).2⟩ hS ls hl

set_option maxHeartbeats 4000000 in
set_option maxRecDepth 100000 in
theorem lw_hushes {p : Program} {l : Launch} {e : Env} {s : State} {mm : MethodId} {below : List Frame} {meth : Method} {c : Code} {b9 L9 k9 r0 q0 : Nat} {xs : Nat → Int32} (C0 : lw_At p s mm meth c b9 L9 xs) {G : gG} (hK : gK G s) {A : Nat → Prop} (hbA : ¬ A b9) (hL : L9 ≤ 3072) (hi9 : k9 + 6 ≤ L9) {H : Heap} {locs : List Loc} (hI : lwI G A r0 q0 H) (hS : va_S A s.heap H locs) {ls : Array Slot} (hl : lv_has ls 4 [(0, .ref b9), (1, .ref r0), (2, .ref q0), (3, .int (nI k9))])
    (kk : ∀ (H : Heap) (locs : List Loc), lwI G A r0 q0 H → va_S A s.heap H locs → ∀ ls : Array Slot, lv_has ls 4 [(0, .ref b9), (1, .ref r0), (2, .ref q0), (3, .int (nI k9))] → W p l e room_1 s mm #[Value.ref b9] below meth c H locs 52 2332 (lw_Z below #[Value.ref b9] s) (F0 mm 827 ls [])) : W p l e room_1 s mm #[Value.ref b9] below meth c H locs 52 2332 (lw_Z below #[Value.ref b9] s) (F0 mm 335 ls []) := by
  obtain ⟨hx, hb, hr, hml, hown, hts0, hX, hbl, hlocks, hgv⟩ := id C0
  have hown : s.vm.findClass RL = some mm.cls := hown
  have hts : ∀ w ∈ wsL_law, w.before #[Value.ref b9] s = true := fun w h => hts0 w (wsL_law_in w h)
  obtain ⟨r, b, f, i, j, a, d, q, tr, sc, u, m0, m1, ke, g, h, ga, m, er, eq, hP, hD, hR⟩ := hI
  subst er
  subst eq
  obtain ⟨Z, n, k, N, cN, ⟨hZ, z1, z2⟩, ⟨n1, n2, n3⟩, ⟨k0, k1, k2⟩, ⟨p1, p2, p3⟩, ⟨c0, c1, c2⟩, hQ, hpl, -⟩ := rAll_q hR
  refine lv_aload_n hx hb dL_law_335 rfl (lv_at hl 1 rfl) ?_
  refine lv_aload_n hx hb dL_law_336 rfl (lv_at hl 0 rfl) ?_
  refine lv_iload_n hx hb dL_law_337 rfl (lv_at hl 3 rfl) ?_
  refine lv_iconst (v := 1) hx hb dL_law_338 (by decide) ?_
  refine lv_iadd hx hb dL_law_339 ?_
  refine g_top (y := nI (k9 + 1)) (nI_add k9 1) ?_
  refine va_sld hx hb hX hbl hbA hS (vp_in_nI (n := k9 + 1) (by omega) (by omega)) dL_law_340 ?_
  refine g_top (y := xs (k9 + 1)) (by rw [nI_clamp (by omega)]) ?_
  refine g_wrL (As := [.int (xs (k9 + 1))]) (rest := []) (nL := 4) hx hb hml hown hts (c_X4_hushes l G r b f a d tr h n k (xs (k9 + 1)) n1 n2 k1 k0) gL_law_X4_hushes rfl h_X4_hushes ⟨(Nat.le_of_ble_eq_true rfl), (Nat.le_of_ble_eq_true rfl)⟩ hK hP hD hS P_ha P_ha (by simp only [List.map_append, ad_ri, ad_sc, ad_he, ad_mo, ad_ha, ad_ar, ad_aq]) (ci := 4) rfl rfl rfl rfl hl.1 rfl (Nat.le_of_ble_eq_true rfl) ⟨(Nat.le_of_ble_eq_true rfl), (Nat.le_of_ble_eq_true rfl)⟩ dL_law_341 (fun H locs hP hD hS => ?_)
  refine lv_aload_n hx hb dL_law_344 rfl (lv_at hl 2 rfl) ?_
  refine lv_aload_n hx hb dL_law_345 rfl (lv_at hl 0 rfl) ?_
  refine lv_iload_n hx hb dL_law_346 rfl (lv_at hl 3 rfl) ?_
  refine lv_iconst (v := 1) hx hb dL_law_347 (by decide) ?_
  refine lv_iadd hx hb dL_law_348 ?_
  refine g_top (y := nI (k9 + 1)) (nI_add k9 1) ?_
  refine va_sld hx hb hX hbl hbA hS (vp_in_nI (n := k9 + 1) (by omega) (by omega)) dL_law_349 ?_
  refine g_top (y := xs (k9 + 1)) (by rw [nI_clamp (by omega)]) ?_
  refine g_wrL (As := [.int (xs (k9 + 1))]) (rest := [_]) (nL := 4) hx hb hml hown hts (c_X5_hushes l G q m n k (xs (k9 + 1)) n3 n2 k2 k0 hpl) gL_law_X5_hushes rfl h_X5_hushes ⟨(Nat.le_of_ble_eq_true rfl), (Nat.le_of_ble_eq_true rfl)⟩ hK hP hD hS P_md P_md (by rw [ad_md, ad_md]) (ci := 5) rfl rfl rfl rfl hl.1 rfl (Nat.le_of_ble_eq_true rfl) ⟨(Nat.le_of_ble_eq_true rfl), (Nat.le_of_ble_eq_true rfl)⟩ dL_law_350 (fun H locs hP hD hS => ?_)
  refine lv_icmp_eq (tgt := 827) hx hb dL_law_353 (by decide) (fun _ => ?_) (fun c_1 => absurd (z_hushes hR n1 n2 k1 k0 (xs (k9 + 1))).1 c_1)
  exact kk H locs ⟨_, _, _, _, _, _, _, _, _, _, _, _, _, _, _, _, _, _, rfl, rfl, hP, hD, (z_hushes hR n1 n2 k1 k0 (xs (k9 + 1))).2⟩ hS ls hl

set_option maxHeartbeats 4000000 in
set_option maxRecDepth 100000 in
theorem lw_undo {p : Program} {l : Launch} {e : Env} {s : State} {mm : MethodId} {below : List Frame} {meth : Method} {c : Code} {b9 L9 k9 r0 q0 : Nat} {xs : Nat → Int32} (C0 : lw_At p s mm meth c b9 L9 xs) {G : gG} (hK : gK G s) {A : Nat → Prop} (hbA : ¬ A b9) (hL : L9 ≤ 3072) (hi9 : k9 + 6 ≤ L9) {H : Heap} {locs : List Loc} (hI : lwI G A r0 q0 H) (hS : va_S A s.heap H locs) {ls : Array Slot} (hl : lv_has ls 4 [(0, .ref b9), (1, .ref r0), (2, .ref q0), (3, .int (nI k9))])
    (kk : ∀ (H : Heap) (locs : List Loc), lwI G A r0 q0 H → va_S A s.heap H locs → ∀ ls : Array Slot, lv_has ls 4 [(0, .ref b9), (1, .ref r0), (2, .ref q0), (3, .int (nI k9))] → W p l e room_1 s mm #[Value.ref b9] below meth c H locs 52 2332 (lw_Z below #[Value.ref b9] s) (F0 mm 827 ls [])) : W p l e room_1 s mm #[Value.ref b9] below meth c H locs 52 2332 (lw_Z below #[Value.ref b9] s) (F0 mm 358 ls []) := by
  obtain ⟨hx, hb, hr, hml, hown, hts0, hX, hbl, hlocks, hgv⟩ := id C0
  have hown : s.vm.findClass RL = some mm.cls := hown
  have hts : ∀ w ∈ wsL_law, w.before #[Value.ref b9] s = true := fun w h => hts0 w (wsL_law_in w h)
  obtain ⟨r, b, f, i, j, a, d, q, tr, sc, u, m0, m1, ke, g, h, ga, m, er, eq, hP, hD, hR⟩ := hI
  subst er
  subst eq
  obtain ⟨Z, n, k, N, cN, ⟨hZ, z1, z2⟩, ⟨n1, n2, n3⟩, ⟨k0, k1, k2⟩, ⟨p1, p2, p3⟩, ⟨c0, c1, c2⟩, hQ, hpl, -⟩ := rAll_q hR
  refine lv_aload_n hx hb dL_law_358 rfl (lv_at hl 1 rfl) ?_
  refine g_wrL (As := []) (rest := []) (nL := 4) hx hb hml hown hts (c_X4_undo l G r b f a d tr h k k1 k0) gL_law_X4_undo rfl h_X4_undo ⟨(Nat.le_of_ble_eq_true rfl), (Nat.le_of_ble_eq_true rfl)⟩ hK hP hD hS P_ha P_ha (by simp only [List.map_append, ad_ri, ad_sc, ad_he, ad_mo, ad_ha, ad_ar, ad_aq]) (ci := 4) rfl rfl rfl rfl hl.1 rfl (Nat.le_of_ble_eq_true rfl) ⟨(Nat.le_of_ble_eq_true rfl), (Nat.le_of_ble_eq_true rfl)⟩ dL_law_359 (fun H locs hP hD hS => ?_)
  refine lv_aload_n hx hb dL_law_362 rfl (lv_at hl 2 rfl) ?_
  refine g_wrL (As := []) (rest := [_]) (nL := 4) hx hb hml hown hts (c_X5_undo l G q m k k2 k0) gL_law_X5_undo rfl h_X5_undo ⟨(Nat.le_of_ble_eq_true rfl), (Nat.le_of_ble_eq_true rfl)⟩ hK hP hD hS P_md P_md (by rw [ad_md, ad_md]) (ci := 5) rfl rfl rfl rfl hl.1 rfl (Nat.le_of_ble_eq_true rfl) ⟨(Nat.le_of_ble_eq_true rfl), (Nat.le_of_ble_eq_true rfl)⟩ dL_law_363 (fun H locs hP hD hS => ?_)
  refine lv_icmp_eq (tgt := 827) hx hb dL_law_366 (by decide) (fun _ => ?_) (fun c_1 => absurd (z_undo hR k1 k0).1 c_1)
  exact kk H locs ⟨_, _, _, _, _, _, _, _, _, _, _, _, _, _, _, _, _, _, rfl, rfl, hP, hD, (z_undo hR k1 k0).2⟩ hS ls hl

set_option maxHeartbeats 4000000 in
set_option maxRecDepth 100000 in
theorem lw_now {p : Program} {l : Launch} {e : Env} {s : State} {mm : MethodId} {below : List Frame} {meth : Method} {c : Code} {b9 L9 k9 r0 q0 : Nat} {xs : Nat → Int32} (C0 : lw_At p s mm meth c b9 L9 xs) {G : gG} (hK : gK G s) {A : Nat → Prop} (hbA : ¬ A b9) (hL : L9 ≤ 3072) (hi9 : k9 + 6 ≤ L9) {H : Heap} {locs : List Loc} (hI : lwI G A r0 q0 H) (hS : va_S A s.heap H locs) {ls : Array Slot} (hl : lv_has ls 4 [(0, .ref b9), (1, .ref r0), (2, .ref q0), (3, .int (nI k9))])
    (kk : ∀ (H : Heap) (locs : List Loc), lwI G A r0 q0 H → va_S A s.heap H locs → ∀ ls : Array Slot, lv_has ls 4 [(0, .ref b9), (1, .ref r0), (2, .ref q0), (3, .int (nI k9))] → W p l e room_1 s mm #[Value.ref b9] below meth c H locs 52 2332 (lw_Z below #[Value.ref b9] s) (F0 mm 827 ls [])) : W p l e room_1 s mm #[Value.ref b9] below meth c H locs 52 2332 (lw_Z below #[Value.ref b9] s) (F0 mm 371 ls []) := by
  obtain ⟨hx, hb, hr, hml, hown, hts0, hX, hbl, hlocks, hgv⟩ := id C0
  have hown : s.vm.findClass RL = some mm.cls := hown
  have hts : ∀ w ∈ wsL_law, w.before #[Value.ref b9] s = true := fun w h => hts0 w (wsL_law_in w h)
  obtain ⟨r, b, f, i, j, a, d, q, tr, sc, u, m0, m1, ke, g, h, ga, m, er, eq, hP, hD, hR⟩ := hI
  subst er
  subst eq
  obtain ⟨Z, n, k, N, cN, ⟨hZ, z1, z2⟩, ⟨n1, n2, n3⟩, ⟨k0, k1, k2⟩, ⟨p1, p2, p3⟩, ⟨c0, c1, c2⟩, hQ, hpl, -⟩ := rAll_q hR
  refine lv_aload_n hx hb dL_law_371 rfl (lv_at hl 1 rfl) ?_
  refine lv_aload_n hx hb dL_law_372 rfl (lv_at hl 0 rfl) ?_
  refine lv_iload_n hx hb dL_law_373 rfl (lv_at hl 3 rfl) ?_
  refine lv_iconst (v := 1) hx hb dL_law_374 (by decide) ?_
  refine lv_iadd hx hb dL_law_375 ?_
  refine g_top (y := nI (k9 + 1)) (nI_add k9 1) ?_
  refine va_sld hx hb hX hbl hbA hS (vp_in_nI (n := k9 + 1) (by omega) (by omega)) dL_law_376 ?_
  refine g_top (y := xs (k9 + 1)) (by rw [nI_clamp (by omega)]) ?_
  refine g_wrL (As := [.int (xs (k9 + 1))]) (rest := []) (nL := 4) hx hb hml hown hts (c_X4_now l G r b f a d tr h n N (xs (k9 + 1)) n1 n2 p1 p2) gL_law_X4_now rfl h_X4_now ⟨(Nat.le_of_ble_eq_true rfl), (Nat.le_of_ble_eq_true rfl)⟩ hK hP hD hS P_ha P_ha (by simp only [List.map_append, ad_ri, ad_sc, ad_he, ad_mo, ad_ha, ad_ar, ad_aq]) (ci := 4) rfl rfl rfl rfl hl.1 rfl (Nat.le_of_ble_eq_true rfl) ⟨(Nat.le_of_ble_eq_true rfl), (Nat.le_of_ble_eq_true rfl)⟩ dL_law_377 (fun H locs hP hD hS => ?_)
  refine lv_aload_n hx hb dL_law_380 rfl (lv_at hl 2 rfl) ?_
  refine lv_aload_n hx hb dL_law_381 rfl (lv_at hl 0 rfl) ?_
  refine lv_iload_n hx hb dL_law_382 rfl (lv_at hl 3 rfl) ?_
  refine lv_iconst (v := 1) hx hb dL_law_383 (by decide) ?_
  refine lv_iadd hx hb dL_law_384 ?_
  refine g_top (y := nI (k9 + 1)) (nI_add k9 1) ?_
  refine va_sld hx hb hX hbl hbA hS (vp_in_nI (n := k9 + 1) (by omega) (by omega)) dL_law_385 ?_
  refine g_top (y := xs (k9 + 1)) (by rw [nI_clamp (by omega)]) ?_
  refine g_rdV (As := [.int (xs (k9 + 1))]) (rest := [_]) (nL := 4) hx hb hml hown hts (c_X5_now l G q m n N (xs (k9 + 1)) p3 p2 n3 n2 hpl) gL_law_X5_now rfl h_X5_now ⟨(Nat.le_of_ble_eq_true rfl), (Nat.le_of_ble_eq_true rfl)⟩ hK (vP_left (vP_perm P_md hP)) (ci := 5) rfl rfl rfl rfl hl.1 rfl (Nat.le_of_ble_eq_true rfl) ⟨(Nat.le_of_ble_eq_true rfl), (Nat.le_of_ble_eq_true rfl)⟩ dL_law_386 ?_
  refine lv_icmp_eq (tgt := 827) hx hb dL_law_389 (by decide) (fun _ => ?_) (fun c_1 => absurd (q_now hQ (xs (k9 + 1))) c_1)
  exact kk H locs ⟨_, _, _, _, _, _, _, _, _, _, _, _, _, _, _, _, _, _, rfl, rfl, hP, hD, rAll_lis hR rfl rfl rfl rfl⟩ hS ls hl

set_option maxHeartbeats 4000000 in
set_option maxRecDepth 100000 in
theorem lw_when {p : Program} {l : Launch} {e : Env} {s : State} {mm : MethodId} {below : List Frame} {meth : Method} {c : Code} {b9 L9 k9 r0 q0 : Nat} {xs : Nat → Int32} (C0 : lw_At p s mm meth c b9 L9 xs) {G : gG} (hK : gK G s) {A : Nat → Prop} (hbA : ¬ A b9) (hL : L9 ≤ 3072) (hi9 : k9 + 6 ≤ L9) {H : Heap} {locs : List Loc} (hI : lwI G A r0 q0 H) (hS : va_S A s.heap H locs) {ls : Array Slot} (hl : lv_has ls 4 [(0, .ref b9), (1, .ref r0), (2, .ref q0), (3, .int (nI k9))])
    (kk : ∀ (H : Heap) (locs : List Loc), lwI G A r0 q0 H → va_S A s.heap H locs → ∀ ls : Array Slot, lv_has ls 4 [(0, .ref b9), (1, .ref r0), (2, .ref q0), (3, .int (nI k9))] → W p l e room_1 s mm #[Value.ref b9] below meth c H locs 52 2332 (lw_Z below #[Value.ref b9] s) (F0 mm 827 ls [])) : W p l e room_1 s mm #[Value.ref b9] below meth c H locs 52 2332 (lw_Z below #[Value.ref b9] s) (F0 mm 394 ls []) := by
  obtain ⟨hx, hb, hr, hml, hown, hts0, hX, hbl, hlocks, hgv⟩ := id C0
  have hown : s.vm.findClass RL = some mm.cls := hown
  have hts : ∀ w ∈ wsL_law, w.before #[Value.ref b9] s = true := fun w h => hts0 w (wsL_law_in w h)
  obtain ⟨r, b, f, i, j, a, d, q, tr, sc, u, m0, m1, ke, g, h, ga, m, er, eq, hP, hD, hR⟩ := hI
  subst er
  subst eq
  obtain ⟨Z, n, k, N, cN, ⟨hZ, z1, z2⟩, ⟨n1, n2, n3⟩, ⟨k0, k1, k2⟩, ⟨p1, p2, p3⟩, ⟨c0, c1, c2⟩, hQ, hpl, -⟩ := rAll_q hR
  refine lv_aload_n hx hb dL_law_394 rfl (lv_at hl 1 rfl) ?_
  refine lv_aload_n hx hb dL_law_395 rfl (lv_at hl 0 rfl) ?_
  refine lv_iload_n hx hb dL_law_396 rfl (lv_at hl 3 rfl) ?_
  refine lv_iconst (v := 1) hx hb dL_law_397 (by decide) ?_
  refine lv_iadd hx hb dL_law_398 ?_
  refine g_top (y := nI (k9 + 1)) (nI_add k9 1) ?_
  refine va_sld hx hb hX hbl hbA hS (vp_in_nI (n := k9 + 1) (by omega) (by omega)) dL_law_399 ?_
  refine g_top (y := xs (k9 + 1)) (by rw [nI_clamp (by omega)]) ?_
  refine lv_aload_n hx hb dL_law_400 rfl (lv_at hl 0 rfl) ?_
  refine lv_iload_n hx hb dL_law_401 rfl (lv_at hl 3 rfl) ?_
  refine lv_iconst (v := 2) hx hb dL_law_402 (by decide) ?_
  refine lv_iadd hx hb dL_law_403 ?_
  refine g_top (y := nI (k9 + 2)) (nI_add k9 2) ?_
  refine va_sld hx hb hX hbl hbA hS (vp_in_nI (n := k9 + 2) (by omega) (by omega)) dL_law_404 ?_
  refine g_top (y := xs (k9 + 2)) (by rw [nI_clamp (by omega)]) ?_
  refine lv_aload_n hx hb dL_law_405 rfl (lv_at hl 0 rfl) ?_
  refine lv_iload_n hx hb dL_law_406 rfl (lv_at hl 3 rfl) ?_
  refine lv_iconst (v := 3) hx hb dL_law_407 (by decide) ?_
  refine lv_iadd hx hb dL_law_408 ?_
  refine g_top (y := nI (k9 + 3)) (nI_add k9 3) ?_
  refine va_sld hx hb hX hbl hbA hS (vp_in_nI (n := k9 + 3) (by omega) (by omega)) dL_law_409 ?_
  refine g_top (y := xs (k9 + 3)) (by rw [nI_clamp (by omega)]) ?_
  refine g_rdV (As := [.int (xs (k9 + 1)), .int (xs (k9 + 2)), .int (xs (k9 + 3))]) (rest := []) (nL := 4) hx hb hml hown hts (c_X4_when l G r b f a d tr h n (xs (k9 + 1)) (xs (k9 + 2)) (xs (k9 + 3)) n1 n2) gL_law_X4_when rfl h_X4_when ⟨(Nat.le_of_ble_eq_true rfl), (Nat.le_of_ble_eq_true rfl)⟩ hK (vP_left (vP_perm P_ha hP)) (ci := 4) rfl rfl rfl rfl hl.1 rfl (Nat.le_of_ble_eq_true rfl) ⟨(Nat.le_of_ble_eq_true rfl), (Nat.le_of_ble_eq_true rfl)⟩ dL_law_410 ?_
  refine lv_aload_n hx hb dL_law_413 rfl (lv_at hl 2 rfl) ?_
  refine lv_aload_n hx hb dL_law_414 rfl (lv_at hl 0 rfl) ?_
  refine lv_iload_n hx hb dL_law_415 rfl (lv_at hl 3 rfl) ?_
  refine lv_iconst (v := 1) hx hb dL_law_416 (by decide) ?_
  refine lv_iadd hx hb dL_law_417 ?_
  refine g_top (y := nI (k9 + 1)) (nI_add k9 1) ?_
  refine va_sld hx hb hX hbl hbA hS (vp_in_nI (n := k9 + 1) (by omega) (by omega)) dL_law_418 ?_
  refine g_top (y := xs (k9 + 1)) (by rw [nI_clamp (by omega)]) ?_
  refine lv_aload_n hx hb dL_law_419 rfl (lv_at hl 0 rfl) ?_
  refine lv_iload_n hx hb dL_law_420 rfl (lv_at hl 3 rfl) ?_
  refine lv_iconst (v := 2) hx hb dL_law_421 (by decide) ?_
  refine lv_iadd hx hb dL_law_422 ?_
  refine g_top (y := nI (k9 + 2)) (nI_add k9 2) ?_
  refine va_sld hx hb hX hbl hbA hS (vp_in_nI (n := k9 + 2) (by omega) (by omega)) dL_law_423 ?_
  refine g_top (y := xs (k9 + 2)) (by rw [nI_clamp (by omega)]) ?_
  refine lv_aload_n hx hb dL_law_424 rfl (lv_at hl 0 rfl) ?_
  refine lv_iload_n hx hb dL_law_425 rfl (lv_at hl 3 rfl) ?_
  refine lv_iconst (v := 3) hx hb dL_law_426 (by decide) ?_
  refine lv_iadd hx hb dL_law_427 ?_
  refine g_top (y := nI (k9 + 3)) (nI_add k9 3) ?_
  refine va_sld hx hb hX hbl hbA hS (vp_in_nI (n := k9 + 3) (by omega) (by omega)) dL_law_428 ?_
  refine g_top (y := xs (k9 + 3)) (by rw [nI_clamp (by omega)]) ?_
  refine g_rdV (As := [.int (xs (k9 + 1)), .int (xs (k9 + 2)), .int (xs (k9 + 3))]) (rest := [_]) (nL := 4) hx hb hml hown hts (c_X5_when l G q m n (xs (k9 + 1)) (xs (k9 + 2)) (xs (k9 + 3)) n3 n2 hpl) gL_law_X5_when rfl h_X5_when ⟨(Nat.le_of_ble_eq_true rfl), (Nat.le_of_ble_eq_true rfl)⟩ hK (vP_left (vP_perm P_md hP)) (ci := 5) rfl rfl rfl rfl hl.1 rfl (Nat.le_of_ble_eq_true rfl) ⟨(Nat.le_of_ble_eq_true rfl), (Nat.le_of_ble_eq_true rfl)⟩ dL_law_429 ?_
  refine lv_icmp_eq (tgt := 827) hx hb dL_law_432 (by decide) (fun _ => ?_) (fun c_1 => absurd (q_when hQ (xs (k9 + 1)) (xs (k9 + 2)) (xs (k9 + 3))) c_1)
  exact kk H locs ⟨_, _, _, _, _, _, _, _, _, _, _, _, _, _, _, _, _, _, rfl, rfl, hP, hD, hR⟩ hS ls hl

set_option maxHeartbeats 4000000 in
set_option maxRecDepth 100000 in
theorem lw_meet {p : Program} {l : Launch} {e : Env} {s : State} {mm : MethodId} {below : List Frame} {meth : Method} {c : Code} {b9 L9 k9 r0 q0 : Nat} {xs : Nat → Int32} (C0 : lw_At p s mm meth c b9 L9 xs) {G : gG} (hK : gK G s) {A : Nat → Prop} (hbA : ¬ A b9) (hL : L9 ≤ 3072) (hi9 : k9 + 6 ≤ L9) {H : Heap} {locs : List Loc} (hI : lwI G A r0 q0 H) (hS : va_S A s.heap H locs) {ls : Array Slot} (hl : lv_has ls 4 [(0, .ref b9), (1, .ref r0), (2, .ref q0), (3, .int (nI k9))])
    (kk : ∀ (H : Heap) (locs : List Loc), lwI G A r0 q0 H → va_S A s.heap H locs → ∀ ls : Array Slot, lv_has ls 4 [(0, .ref b9), (1, .ref r0), (2, .ref q0), (3, .int (nI k9))] → W p l e room_1 s mm #[Value.ref b9] below meth c H locs 52 2332 (lw_Z below #[Value.ref b9] s) (F0 mm 827 ls [])) : W p l e room_1 s mm #[Value.ref b9] below meth c H locs 52 2332 (lw_Z below #[Value.ref b9] s) (F0 mm 437 ls []) := by
  obtain ⟨hx, hb, hr, hml, hown, hts0, hX, hbl, hlocks, hgv⟩ := id C0
  have hown : s.vm.findClass RL = some mm.cls := hown
  have hts : ∀ w ∈ wsL_law, w.before #[Value.ref b9] s = true := fun w h => hts0 w (wsL_law_in w h)
  obtain ⟨r, b, f, i, j, a, d, q, tr, sc, u, m0, m1, ke, g, h, ga, m, er, eq, hP, hD, hR⟩ := hI
  subst er
  subst eq
  obtain ⟨Z, n, k, N, cN, ⟨hZ, z1, z2⟩, ⟨n1, n2, n3⟩, ⟨k0, k1, k2⟩, ⟨p1, p2, p3⟩, ⟨c0, c1, c2⟩, hQ, hpl, -⟩ := rAll_q hR
  refine lv_aload_n hx hb dL_law_437 rfl (lv_at hl 1 rfl) ?_
  refine lv_aload_n hx hb dL_law_438 rfl (lv_at hl 0 rfl) ?_
  refine lv_iload_n hx hb dL_law_439 rfl (lv_at hl 3 rfl) ?_
  refine lv_iconst (v := 1) hx hb dL_law_440 (by decide) ?_
  refine lv_iadd hx hb dL_law_441 ?_
  refine g_top (y := nI (k9 + 1)) (nI_add k9 1) ?_
  refine va_sld hx hb hX hbl hbA hS (vp_in_nI (n := k9 + 1) (by omega) (by omega)) dL_law_442 ?_
  refine g_top (y := xs (k9 + 1)) (by rw [nI_clamp (by omega)]) ?_
  refine lv_aload_n hx hb dL_law_443 rfl (lv_at hl 0 rfl) ?_
  refine lv_iload_n hx hb dL_law_444 rfl (lv_at hl 3 rfl) ?_
  refine lv_iconst (v := 2) hx hb dL_law_445 (by decide) ?_
  refine lv_iadd hx hb dL_law_446 ?_
  refine g_top (y := nI (k9 + 2)) (nI_add k9 2) ?_
  refine va_sld hx hb hX hbl hbA hS (vp_in_nI (n := k9 + 2) (by omega) (by omega)) dL_law_447 ?_
  refine g_top (y := xs (k9 + 2)) (by rw [nI_clamp (by omega)]) ?_
  refine g_rdV (As := [.int (xs (k9 + 1)), .int (xs (k9 + 2))]) (rest := []) (nL := 4) hx hb hml hown hts (c_X4_meet l G r b f a d tr h n (xs (k9 + 1)) (xs (k9 + 2)) n1 n2) gL_law_X4_meet rfl h_X4_meet ⟨(Nat.le_of_ble_eq_true rfl), (Nat.le_of_ble_eq_true rfl)⟩ hK (vP_left (vP_perm P_ha hP)) (ci := 4) rfl rfl rfl rfl hl.1 rfl (Nat.le_of_ble_eq_true rfl) ⟨(Nat.le_of_ble_eq_true rfl), (Nat.le_of_ble_eq_true rfl)⟩ dL_law_448 ?_
  refine lv_aload_n hx hb dL_law_451 rfl (lv_at hl 2 rfl) ?_
  refine lv_aload_n hx hb dL_law_452 rfl (lv_at hl 0 rfl) ?_
  refine lv_iload_n hx hb dL_law_453 rfl (lv_at hl 3 rfl) ?_
  refine lv_iconst (v := 1) hx hb dL_law_454 (by decide) ?_
  refine lv_iadd hx hb dL_law_455 ?_
  refine g_top (y := nI (k9 + 1)) (nI_add k9 1) ?_
  refine va_sld hx hb hX hbl hbA hS (vp_in_nI (n := k9 + 1) (by omega) (by omega)) dL_law_456 ?_
  refine g_top (y := xs (k9 + 1)) (by rw [nI_clamp (by omega)]) ?_
  refine lv_aload_n hx hb dL_law_457 rfl (lv_at hl 0 rfl) ?_
  refine lv_iload_n hx hb dL_law_458 rfl (lv_at hl 3 rfl) ?_
  refine lv_iconst (v := 2) hx hb dL_law_459 (by decide) ?_
  refine lv_iadd hx hb dL_law_460 ?_
  refine g_top (y := nI (k9 + 2)) (nI_add k9 2) ?_
  refine va_sld hx hb hX hbl hbA hS (vp_in_nI (n := k9 + 2) (by omega) (by omega)) dL_law_461 ?_
  refine g_top (y := xs (k9 + 2)) (by rw [nI_clamp (by omega)]) ?_
  refine g_rdV (As := [.int (xs (k9 + 1)), .int (xs (k9 + 2))]) (rest := [_]) (nL := 4) hx hb hml hown hts (c_X5_meet l G q m n (xs (k9 + 1)) (xs (k9 + 2)) n3 n2 hpl) gL_law_X5_meet rfl h_X5_meet ⟨(Nat.le_of_ble_eq_true rfl), (Nat.le_of_ble_eq_true rfl)⟩ hK (vP_left (vP_perm P_md hP)) (ci := 5) rfl rfl rfl rfl hl.1 rfl (Nat.le_of_ble_eq_true rfl) ⟨(Nat.le_of_ble_eq_true rfl), (Nat.le_of_ble_eq_true rfl)⟩ dL_law_462 ?_
  refine lv_icmp_eq (tgt := 827) hx hb dL_law_465 (by decide) (fun _ => ?_) (fun c_1 => absurd (q_meet hQ (xs (k9 + 1)) (xs (k9 + 2))) c_1)
  exact kk H locs ⟨_, _, _, _, _, _, _, _, _, _, _, _, _, _, _, _, _, _, rfl, rfl, hP, hD, hR⟩ hS ls hl
