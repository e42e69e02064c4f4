theorem rAll_0 : rAll sc0 he0 ha0 (fun _ => 0) mo0 mo0 0 md0 := by
  refine ⟨⟨0, by omega, rfl, rfl, fun i hi => absurd hi (Nat.not_lt_zero _)⟩, ⟨0, by omega, rfl, rfl, fun i hi => absurd hi (Nat.not_lt_zero _)⟩, ⟨rfl, rfl, rfl, ⟨12, by omega, by omega, rfl⟩, by decide, by decide, 0, by decide, rfl⟩, ⟨0, by omega, rfl, rfl, 0, ?_⟩, ⟨rfl, rfl, Or.inl rfl, Or.inl rfl⟩, rfl⟩
  exact ⟨by omega, rfl, rfl, rfl, by decide, by decide, fun s hs => absurd hs (Nat.not_lt_zero _), fun s hs => absurd hs (Nat.not_lt_zero _), fun s _ _ => b_0 s⟩
set_option maxHeartbeats 4000000 in
set_option maxRecDepth 100000 in
/-- THE LAW, from its entry -/
theorem whole_start {p : Program} {e : Env} {s : State} {m : MethodId} {below : List Frame} {meth : Method} {c : Code} (l : Launch) (hflags : l.flags = flags0) {b L : Nat} {xs : Nat → Int32} (hL : L ≤ 3072) (C0 : lw_At p s m meth c b L xs) : W p l e room_1 s m #[Value.ref b] below meth c s.heap [] 0 0 (lw_Z below #[Value.ref b] s) (entryFrame m ([Value.ref b] : List Value).toArray 4) := by
  obtain ⟨hx, hb, hr, hml, hown, hts0, hX, hbl, hlocks, hgv⟩ := id C0
  have hown : s.vm.findClass RL = some m.cls := hown
  have hts : ∀ w ∈ wsL_law, w.before #[Value.ref b] s = true := fun w h => hts0 w (wsL_law_in w h)
  have hiX0 : (Cond.instantiable RX0 6).before #[Value.ref b] s = true := hts0 _ (List.mem_append_right _ (List.mem_of_getElem? (i := 122) (by decide +kernel)))
  obtain ⟨cX0, iX0, hKnX0⟩ := u_known (C := RX0) (T := TX0) (N := 6) (n := 6) hts0 inX0 hiX0
  have hiX1 : (Cond.instantiable RX1 4).before #[Value.ref b] s = true := hts0 _ (List.mem_append_right _ (List.mem_of_getElem? (i := 49) (by decide +kernel)))
  obtain ⟨cX1, iX1, hKnX1⟩ := u_known (C := RX1) (T := TX1) (N := 4) (n := 4) hts0 inX1 hiX1
  have hiX2 : (Cond.instantiable RX2 10).before #[Value.ref b] s = true := hts0 _ (List.mem_append_right _ (List.mem_of_getElem? (i := 70) (by decide +kernel)))
  obtain ⟨cX2, iX2, hKnX2⟩ := u_known (C := RX2) (T := TX2) (N := 10) (n := 10) hts0 inX2 hiX2
  have hiX3 : (Cond.instantiable RX3 7).before #[Value.ref b] s = true := hts0 _ (List.mem_append_right _ (List.mem_of_getElem? (i := 19) (by decide +kernel)))
  obtain ⟨cX3, iX3, hKnX3⟩ := u_known (C := RX3) (T := TX3) (N := 7) (n := 7) hts0 inX3 hiX3
  have hiX4 : (Cond.instantiable RX4 8).before #[Value.ref b] s = true := hts0 _ (List.mem_append_right _ (List.mem_of_getElem? (i := 11) (by decide +kernel)))
  obtain ⟨cX4, iX4, hKnX4⟩ := u_known (C := RX4) (T := TX4) (N := 8) (n := 8) hts0 inX4 hiX4
  have hiX5 : (Cond.instantiable RX5 21).before #[Value.ref b] s = true := hts0 _ (List.mem_append_right _ (List.mem_of_getElem? (i := 585) (by decide +kernel)))
  obtain ⟨cX5, iX5, hKnX5⟩ := u_known (C := RX5) (T := TX5) (N := 21) (n := 21) hts0 inX5 hiX5
  obtain ⟨cI, kI, pI, fI1, fI2, fI3⟩ := Cond.arrayClass_spec (hts0 (.arrayClass .int) (List.mem_append_right _ (List.mem_of_getElem? (i := 47) (by decide +kernel))))
  obtain ⟨cZ, kZ, pZ, fZ1, fZ2, fZ3⟩ := Cond.arrayClass_spec (hts0 (.arrayClass .boolean) (List.mem_append_right _ (List.mem_of_getElem? (i := 156) (by decide +kernel))))
  have hover := hts0 (.arrayOver (.object RX2)) (List.mem_append_right _ (List.mem_of_getElem? (i := 69) (by decide +kernel)))
  obtain ⟨pM, cM, kM9, fM1, fM2, fM3, fM4, fM5⟩ := Cond.arrayOver_spec hover
  obtain ⟨dC, dI, hKc⟩ : ∃ (dC : Nat → ClassId) (dI : Nat → Nat → Nat), ∀ (k : Nat) (q : vw_C), vwCl[k]? = some q → u_Kn s q.1 q.2.1 q.2.2 (dC k) (dI k) := by
    refine ⟨fun k => if k = 0 then cX0 else if k = 1 then cX1 else if k = 2 then cX2 else if k = 3 then cX3 else if k = 4 then cX4 else cX5, fun k => if k = 0 then iX0 else if k = 1 then iX1 else if k = 2 then iX2 else if k = 3 then iX3 else if k = 4 then iX4 else iX5, ?_⟩
    intro k q hq
    match k, hq with
    | 0, hq => cases hq; exact hKnX0
    | 1, hq => cases hq; exact hKnX1
    | 2, hq => cases hq; exact hKnX2
    | 3, hq => cases hq; exact hKnX3
    | 4, hq => cases hq; exact hKnX4
    | 5, hq => cases hq; exact hKnX5
    | k + 6, hq => simp [vwCl] at hq
  obtain ⟨G, hG⟩ : ∃ G : gG, G = ((dC, dI), cI, cZ, cM) := ⟨_, rfl⟩
  have hKK : va_K G.1 vwCl (gTys G) s := by
    rw [hG]
    refine ⟨hKc, fun k q hq => ?_⟩
    match k, hq with
    | 0, hq => cases hq; exact ⟨fun n z => ⟨fun k h => (by cases h), kI, fI2, pI, fI3⟩, fI1⟩
    | 1, hq => cases hq; exact ⟨fun n z => ⟨fun k h => (by cases h), kZ, fZ2, pZ, fZ3⟩, fZ1⟩
    | 2, hq => cases hq; exact ⟨fun n z => ⟨fun k h => (by cases h), kM9, fM3, pM, fM4⟩, kM9, pM, fM3, fM4, fM1, fM5⟩
    | k + 3, hq => simp [gTys] at hq
  have w0 : va_Nw (.methodLinkNest RX0 38 yX4_within RX4) s := va_Nw.of rfl (hts0 (.methodLinkNest RX0 38 yX4_within RX4) (List.mem_append_right _ (List.mem_of_getElem? (i := 265) (by decide +kernel))))
  have w1 : va_Nw (.methodLinkNest RX3 90 yX4_within RX4) s := va_Nw.of rfl (hts0 (.methodLinkNest RX3 90 yX4_within RX4) (List.mem_append_right _ (List.mem_of_getElem? (i := 236) (by decide +kernel))))
  have w2 : va_Nw (.methodLinkNest RX0 20 yX2_init RX4) s := va_Nw.of rfl (hts0 (.methodLinkNest RX0 20 yX2_init RX4) (List.mem_append_right _ (List.mem_of_getElem? (i := 128) (by decide +kernel))))
  have w3 : va_Nw (.methodLinkNest RX4 11 yX3_init RX4) s := va_Nw.of rfl (hts0 (.methodLinkNest RX4 11 yX3_init RX4) (List.mem_append_right _ (List.mem_of_getElem? (i := 20) (by decide +kernel))))
  have w4 : va_Nw (.methodLinkNest RX4 18 yX1_init RX4) s := va_Nw.of rfl (hts0 (.methodLinkNest RX4 18 yX1_init RX4) (List.mem_append_right _ (List.mem_of_getElem? (i := 50) (by decide +kernel))))
  have w5 : va_Nw (.methodLinkNest RX4 29 yX2_init RX4) s := va_Nw.of rfl (hts0 (.methodLinkNest RX4 29 yX2_init RX4) (List.mem_append_right _ (List.mem_of_getElem? (i := 71) (by decide +kernel))))
  have w6 : va_Nw (.methodLinkNest RX4 40 yX0_init RX4) s := va_Nw.of rfl (hts0 (.methodLinkNest RX4 40 yX0_init RX4) (List.mem_append_right _ (List.mem_of_getElem? (i := 123) (by decide +kernel))))
  have hKi : gKi G s := ⟨⟨hKK, w0, w1⟩, w2, w3, w4, w5, w6, va_AO.of hover⟩
  have hA : ∀ q : Nat, s.heap.size ≤ q → (fun q : Nat => s.heap.size ≤ q) q := fun _ h => h
  have hS : va_S (fun q : Nat => s.heap.size ≤ q) s.heap s.heap [] := va_S.rf
  have hP : va_P G.1 vwCl [] s.heap := fun k q h => by simp at h
  have hD : va_D (fun q : Nat => s.heap.size ≤ q) [] := ⟨fun i j p q h => by simp at h, fun k q h => by simp at h⟩
  have hl := lv_entry ([.ref b]) (n := 4) (Nat.le_of_ble_eq_true rfl)
  rw [lg_entry_eq]
  generalize (lg_sl ([.ref b]) ++ List.replicate (4 - (lg_sl ([.ref b])).length) Slot.unset).toArray = ls at hl ⊢
  have hl : lv_has ls 4 [(0, .ref b)] := hl
  refine va_new (ws := []) (ci := 4) (fs := [.null, .null, .null, .null, .null, .null, .null, .long 0]) (C := RX4) (T := TX4) (N := 8) hx hb hts0 inX4 tyX4 tyX4_ok hown (hts0 (.classLink RL 7 RX4) (wsL_in_r1 _ (by decide +kernel))) hiX4 (hts0 (.initialized RX4) (wsL_in_r1 _ (by decide +kernel))) hKK hP hD hS hA rfl (fun j hj => by rcases (show j = 0 ∨ j = 1 ∨ j = 2 ∨ j = 3 ∨ j = 4 ∨ j = 5 ∨ j = 6 ∨ j = 7 by omega) with rfl | rfl | rfl | rfl | rfl | rfl | rfl | rfl <;> rfl) (Nat.le_of_ble_eq_true rfl) (Nat.le_of_ble_eq_true rfl) dL_law_0 (fun q1 H hP hD hS => ?_)
  refine W.widen (k := 1) (n := 8) (Nat.le_of_ble_eq_true rfl) (Nat.le_of_ble_eq_true rfl) ?_
  refine lv_dup hx hb dL_law_3 rfl ?_
  refine g_mkI (ws := []) (rest := [.ref q1]) (nL := 4) hx hb hml hown hts (c_X4_init l G) gL_law_X4_init rfl rfl (hts0 (.methodLink RL 9 yX4_init) (wsL_in_r1 _ (by decide +kernel))) (hts0 (.initialized RX4) (wsL_in_r1 _ (by decide +kernel))) (hts0 (.instanceMethod yX4_init) (wsL_in_r1 _ (by decide +kernel))) h_X4_init ⟨(Nat.le_of_ble_eq_true rfl), (Nat.le_of_ble_eq_true rfl)⟩ hKi hP hD hS hA hl.1 (Nat.le_of_ble_eq_true rfl) ⟨(Nat.le_of_ble_eq_true rfl), (Nat.le_of_ble_eq_true rfl)⟩ dL_law_4 (fun u H locs hu hPn hDn hS => ?_)
  have hu : u.r 0 = q1 := hu
  subst hu
  refine W.widen (k := 44) (n := 469) (Nat.le_of_ble_eq_true rfl) (Nat.le_of_ble_eq_true rfl) ?_
  have hP : va_P G.1 vwCl (wRg u G) H := hPn
  have hD : va_D (fun q : Nat => s.heap.size ≤ q) (wRg u G) := hDn
  refine lv_astore_n (lv' := [(1, .ref (u.r 0)), (0, .ref b)]) hx hb dL_law_7 rfl hl (by decide) rfl (fun ls hl => ?_)
  refine va_new (ws := wRg u G) (ci := 5) (fs := [.null, .int 0, .int 0, .int 0, .int 0, .null, .null, .int 0, .null, .null, .null, .int 0, .long 0, .int 0, .int 0, .int 0, .int 0, .int 0, .int 0, .int 0, .null]) (C := RX5) (T := TX5) (N := 21) hx hb hts0 inX5 tyX5 tyX5_ok hown (hts0 (.classLink RL 10 RX5) (wsL_in_r1 _ (by decide +kernel))) hiX5 (hts0 (.initialized RX5) (wsL_in_r1 _ (by decide +kernel))) hKK hP hD hS hA rfl (fun j hj => by rcases (show j = 0 ∨ j = 1 ∨ j = 2 ∨ j = 3 ∨ j = 4 ∨ j = 5 ∨ j = 6 ∨ j = 7 ∨ j = 8 ∨ j = 9 ∨ j = 10 ∨ j = 11 ∨ j = 12 ∨ j = 13 ∨ j = 14 ∨ j = 15 ∨ j = 16 ∨ j = 17 ∨ j = 18 ∨ j = 19 ∨ j = 20 by omega) with rfl | rfl | rfl | rfl | rfl | rfl | rfl | rfl | rfl | rfl | rfl | rfl | rfl | rfl | rfl | rfl | rfl | rfl | rfl | rfl | rfl <;> rfl) (Nat.le_of_ble_eq_true rfl) (Nat.le_of_ble_eq_true rfl) dL_law_8 (fun q2 H hP hD hS => ?_)
  refine W.widen (k := 45) (n := 490) (Nat.le_of_ble_eq_true rfl) (Nat.le_of_ble_eq_true rfl) ?_
  refine lv_dup hx hb dL_law_11 rfl ?_
  refine g_mkI (ws := wRg u G) (rest := [.ref q2]) (nL := 4) hx hb hml hown hts (c_X5_init l G) gL_law_X5_init rfl rfl (hts0 (.methodLink RL 12 yX5_init) (wsL_in_r3 _ (by decide +kernel))) (hts0 (.initialized RX5) (wsL_in_r1 _ (by decide +kernel))) (hts0 (.instanceMethod yX5_init) (wsL_in_r3 _ (by decide +kernel))) h_X5_init ⟨(Nat.le_of_ble_eq_true rfl), (Nat.le_of_ble_eq_true rfl)⟩ hKi hP hD hS hA hl.1 (Nat.le_of_ble_eq_true rfl) ⟨(Nat.le_of_ble_eq_true rfl), (Nat.le_of_ble_eq_true rfl)⟩ dL_law_12 (fun v H locs hu hPn hDn hS => ?_)
  have hu : v 0 = q2 := hu
  subst hu
  refine W.widen (k := 52) (n := 2332) (Nat.le_of_ble_eq_true rfl) (Nat.le_of_ble_eq_true rfl) ?_
  have eW : wRg u G ++ wMd v G.2.1 G.2.2.1 md0 = wLw u.1 u.2.1 u.2.2.1 u.2.2.2.1 u.2.2.2.2.1 u.2.2.2.2.2.1 u.2.2.2.2.2.2 v 0 G sc0 he0 mo0 mo0 (fun _ => 0) ha0 ha0 (fun _ => 0) md0 := by
    unfold wRg wRw wLw
    simp only [List.append_assoc, List.append_nil]
  rw [eW] at hPn hDn
  refine lv_astore_n (lv' := [(2, .ref (v 0)), (1, .ref (u.r 0)), (0, .ref b)]) hx hb dL_law_15 rfl hl (by decide) rfl (fun ls hl => ?_)
  refine lv_iconst (v := 0) hx hb dL_law_16 (by decide) ?_
  refine lv_istore_n (lv' := [(3, .int 0), (2, .ref (v 0)), (1, .ref (u.r 0)), (0, .ref b)]) hx hb dL_law_17 rfl hl (by decide) rfl (fun ls hl => ?_)
  exact lw_loop C0 hKi.1 rfl hL (L + 6 + 1) 0 (by omega) (by omega) H locs ⟨_, _, _, _, _, _, _, _, _, _, _, _, _, _, _, _, _, _, rfl, rfl, hPn, hDn, rAll_0⟩ hS ls (lv_sub hl [3, 2, 1, 0] rfl)
-- ===== YOUR PART ENDS =====
set_option maxHeartbeats 4000000 in
theorem lw_walk (l : Launch) (hflags : l.flags = flags0) (b : Addr) (xs : List Int32) : MetFree l x (headSpec (Jvm.Cond.code x code maxLocals ret :: tables_1) room_1) (lw_P b xs) (fun _ _ _ _ _ => True) lw_Q := by
  refine MetFree.of_bodyS (code := code) (maxLocals := maxLocals) (ret := ret) (by decide) ?_ ?_
  · intro args s m h hn
    obtain ⟨meth, c, h1, h2, h3, h4, h5, h6, -, -⟩ := Cond.code_spec hn (atoms_spec (ws := Jvm.Cond.code x code maxLocals ret :: tables_1) h _ List.mem_cons_self)
    exact ⟨meth, c, h1, h2, h3, h4, h5, h6⟩
  · intro p e s m args below meth c s₁ B hml0 hP _
    obtain ⟨rfl, hx, hbd, hgv⟩ := hP
    obtain ⟨scr, harrAt, hlist, hof, hsmall⟩ := hx
    obtain ⟨hcb, hkn, -, -⟩ := State.arrayAt?_spec harrAt
    have hown : s.vm.findClass R_law = some m.cls := findClass_of_methodNamed B.named
    have hts0 : ∀ c ∈ (Jvm.Cond.code x code maxLocals ret :: tables_1), c.before #[Value.ref b] s = true := atoms_spec (ws := Jvm.Cond.code x code maxLocals ret :: tables_1) B.pre
    have hts : ∀ w ∈ lw_tbl, w.before #[Value.ref b] s = true := k2_hts_sels lw_privs (fun w hw => hts0 w (List.mem_cons_of_mem _ hw)) lw_privs_ok
    have hml : c.maxLocals = 4 := B.maxLocals_eq (hts0 _ List.mem_cons_self)
    have X₀ : Stand p l e room_1 s m #[Value.ref b] below meth c s₁ [] 0 0 := Stand.of_body B
    have hh0 : s₁.heap = s.heap := by rw [B.state]; rfl
    have hsz : scr.slots.size = xs.length := by rw [← Array.length_toList, hlist, List.length_map]
    have hval : ∀ j : Nat, j < xs.length → scr.slots[j]? = some (.int (xs.getD j 0)) := fun j hj => by
      rw [← Array.getElem?_toList, hlist]
      simp [hj]
    have hbl : b < s.heap.size := (Array.getElem?_eq_some_iff.mp hcb).1
    have hX : va_X b xs.length (fun j => xs.getD j 0) s s.heap := ⟨scr, hcb, hof, hkn, hsz, hval⟩
    have K : W p l e room_1 s m #[Value.ref b] below meth c s₁.heap [] 0 0 (lw_Z below #[Value.ref b] s) (entryFrame m ([Value.ref b] : List Value).toArray 4) := by
      rw [hh0]
      exact whole_start l hflags hbd ⟨B.exec, B.bytes, B.returns, hml, hown, hts, hX, hbl, B.notSynchronized, hgv⟩
    obtain ⟨t, a1, o, b1, b2, b3⟩ := K s₁ rfl X₀
    exact ⟨t, o, a1, b1, b2, b3⟩
theorem lw_pre_spec {args : Array Value} {s : State} (h : (Jvm.Cond.and given_1 narrow_1).before args s = true) (hr : rest_1_c.before args s = true) : ∃ (b : Addr) (xs : List Int32), lw_P b xs args s := by
  have hs := flat_of_before _ h
  have hq := flat_of_before _ hr
  have hc : (Cond.count 1).before args s = true := hs _ (by decide +kernel)
  have harr : (Cond.arrayOf (.arg 0) .int).before args s = true := hs _ (by decide +kernel)
  have hle : (Cond.le (.length (.arg 0)) (.int 3072)).before args s = true := hs _ (by decide +kernel)
  have hlen : (Cond.isInt (.length (.arg 0))).before args s = true := hq _ (by decide +kernel)
  have hall : (Cond.all (.arg 0) (.isInt (.elem (.arg 0) (.index 0)))).before args s = true := hq _ (by decide +kernel)
  obtain ⟨b, xs, hb, hx⟩ := State.ints_of_pre rfl harr hlen hall
  have hsm : xs.length < 2 ^ 31 := hx.choose_spec.2.2.2
  have hev : (Term.length (.arg 0)).eval args s none [] s = some (.int xs.length.toInt32) := hx.length_eval hb
  have hv := Cond.le_ints hev (show (Term.int 3072).eval args s none [] s = some (.int 3072) from rfl)
  have hd : xs.length.toInt32 ≤ 3072 := by
    simpa [Cond.before, Cond.holds, hv] using hle
  have hN : xs.length ≤ 3072 := (Int32.ofNat_le_ofNat hsm (by decide)).mp (show Int32.ofNat xs.length ≤ Int32.ofNat 3072 from hd)
  exact ⟨b, xs, Cond.one_arg hc (show args[0]? = some (.ref b) from hb), hx, hN, h⟩
theorem lw_comes (l : Launch) (hflags : l.flags = flags0) : Comes l x (Jvm.Cond.code x code maxLocals ret :: tables_1) room_1 (fun tb e args s => Calls_1 tb e args s ∧ rest_1 tb e args s ∧ Pre_1 tb e args s)
    (fun _ _ args s o t => lw_Q args s o t) := by
  intro p e ha hc hk s m args below hf hfit hheap happ hpre
  obtain ⟨b, xs, hP⟩ := lw_pre_spec hpre.2.2 hpre.2.1
  obtain ⟨k, o, h1, h2, h3, hQ⟩ := lw_walk l hflags b xs p e ha hc hk s m args below hf ((Spec.applies_iff_loose hf).mp happ).1 hP trivial
  exact ⟨k, o, h1, h2, h3, hQ⟩
theorem lw_frame {s t : State} {o : Outcome} {args : Array Value} (h : Framed s o t [] 600000 7302250) :
    Framed s o t (fieldLocs frame_1_writes args s ++ arrayLocs frame_1_arrays args s ++ staticLocs frame_1_statics s) 600000 7302250 := h
theorem lw_limb (L : Cond) (hL : ∀ (args : Array Value) (s t : State), L.after args s (.returned (some (.int 1))) t = true) :
    ArmFor flags0 classFile x code maxLocals ret World_1 tables_1 room_1 Calls_1 rest_1 Pre_1
      (fun tb e a s o t => postC L tb e a s o t ∧ Framed s o t (fieldLocs frame_1_writes a s ++ arrayLocs frame_1_arrays a s ++ staticLocs frame_1_statics s) 600000 7302250) := by
  intro l hflags _ _ p e ha hc hk s m args below hf hfit hheap happ hpre
  obtain ⟨k, o, h1, h2, h3, rfl, hF⟩ := lw_comes l hflags p e ha hc hk s m args below hf hfit hheap happ hpre
  exact ⟨k, _, h1, h2, h3, hL args s _, lw_frame hF⟩
theorem i_vc : Claimed_1_1 ∧ Claimed_1_2 := ⟨lw_limb limb_1_1 (fun args s t => by simp [limb_1_1, Cond.after, Cond.holds, Cond.value]), lw_limb limb_1_2 (fun args s t => Cond.after_iff.mpr (by
  first | (rw [show limb_1_2 = Cond.eq .result (.int 1) from rfl, Cond.eq_ints (x := 1) (y := 1) rfl rfl]; simp; done) | (simp [limb_1_2, Cond.value, Term.eval]; done)))⟩
