abbrev RgS : Type := (Nat → Nat) × (Nat → Nat) × (Nat → Nat) × (Nat → Nat) × (Nat → Nat) × (Nat → Nat) × (Nat → Nat)
abbrev RgS.r (u : RgS) : Nat → Nat := u.1
/-- the world of a ring: the ring, its script, hearsay, images, both moments, kept, draft, hall, guesses -/
def wRw (r b f i j a d : Nat → Nat) (tr : Int64) (G : gG) (sc : ScS) (u : HeS) (m0 m1 : MoS) (ke : Nat → Int32) (g h : HaS) (ga : Nat → Int32) : va_W := wRi r b f a d tr ++ (wSc b G.2.1 sc ++ (wHe f G.2.1 u ++ (wAq (r 1) G.2.2.2 2 (imF i j) ++ (wMo i G.2.1 m0 ++ (wMo j G.2.1 m1 ++ (wAr (r 2) G.2.2.1 2 ke ++ (wHa d G.2.1 g ++ (wHa a G.2.1 h ++ wAr (r 3) G.2.1 24 ga))))))))
def wRg (u : RgS) (G : gG) : va_W := wRw u.1 u.2.1 u.2.2.1 u.2.2.2.1 u.2.2.2.2.1 u.2.2.2.2.2.1 u.2.2.2.2.2.2 0 G sc0 he0 mo0 mo0 (fun _ => 0) ha0 ha0 (fun _ => 0)
theorem pm_rg (c0 : Nat × va_E) (s0 s1 s2 s3 s4 s5 s6 s7 s8 : va_W) : (c0 :: (s0 ++ s1 ++ s2 ++ s3 ++ s4 ++ s5 ++ s6 ++ s7 ++ s8)).Perm ([c0] ++ (s0 ++ (s1 ++ (s2 ++ (s3 ++ (s4 ++ (s5 ++ (s8 ++ (s7 ++ s6))))))))) := by
  simp only [List.append_assoc]
  show ([c0] ++ _).Perm _
  refine List.Perm.append_left _ (List.Perm.append_left _ (List.Perm.append_left _ (List.Perm.append_left _ (List.Perm.append_left _ (List.Perm.append_left _ (List.Perm.append_left _ ?_))))))
  refine (List.perm_append_comm (l₁ := s6) (l₂ := s7 ++ s8)).trans ?_
  rw [← List.append_assoc]
  exact List.Perm.append_right _ List.perm_append_comm
theorem im_cell {i j : Nat → Nat} {q : Nat} {cA : ClassId} {D : va_G} {cl : List vw_C} {H : Heap} (h : va_at D cl (q, .inl (cA, 2, .inr (.inr (.inr (.inr (va_up (va_up (fun _ => none) 0 (some (i 0))) 1 (some (j 0)))))))) H) : va_at D cl (q, .inl (cA, 2, .inr (.inr (.inr (.inr (imF i j)))))) H := by
  have e : vp_cell cA (2, .inr (.inr (.inr (.inr (va_up (va_up (fun _ => none) 0 (some (i 0))) 1 (some (j 0))))))) = vp_cell cA (2, .inr (.inr (.inr (.inr (imF i j))))) := rfl
  show H[q]? = some (vp_cell cA (2, .inr (.inr (.inr (.inr (imF i j))))))
  rw [← e]
  exact h
theorem vP_ims {D : va_G} {cl : List vw_C} {H : Heap} {i j : Nat → Nat} {q : Nat} {cA : ClassId} {x y z T : va_W} (h : va_P D cl (x ++ (y ++ (z ++ ([(q, .inl (cA, 2, .inr (.inr (.inr (.inr (va_up (va_up (fun _ => none) 0 (some (i 0))) 1 (some (j 0))))))))] ++ T)))) H) : va_P D cl (x ++ (y ++ (z ++ ([(q, .inl (cA, 2, .inr (.inr (.inr (.inr (imF i j))))))] ++ T)))) H := by
  have h := vP_mem.mp h
  refine vP_mem.mpr (fun w hw => ?_)
  rcases List.mem_append.mp hw with g | g
  · exact h w (List.mem_append_left _ g)
  · rcases List.mem_append.mp g with g | g
    · exact h w (List.mem_append_right _ (List.mem_append_left _ g))
    · rcases List.mem_append.mp g with g | g
      · exact h w (List.mem_append_right _ (List.mem_append_right _ (List.mem_append_left _ g)))
      · rcases List.mem_append.mp g with g | g
        · rw [List.mem_singleton] at g
          rw [g]
          exact im_cell (h _ (List.mem_append_right _ (List.mem_append_right _ (List.mem_append_right _ (List.mem_append_left _ List.mem_cons_self)))))
        · exact h w (List.mem_append_right _ (List.mem_append_right _ (List.mem_append_right _ (List.mem_append_right _ g))))
theorem vD_ims {A : Nat → Prop} {i j : Nat → Nat} {q : Nat} {cA : ClassId} {x y z T : va_W} (h : va_D A (x ++ (y ++ (z ++ ([(q, .inl (cA, 2, .inr (.inr (.inr (.inr (va_up (va_up (fun _ => none) 0 (some (i 0))) 1 (some (j 0))))))))] ++ T))))) : va_D A (x ++ (y ++ (z ++ ([(q, .inl (cA, 2, .inr (.inr (.inr (.inr (imF i j))))))] ++ T)))) := gD_same (by simp only [List.map_append]; rfl) h
theorem i_X4_init_X0 : ∀ w ∈ wsX00, w ∈ wsX4_init := by decide +kernel
theorem i_X4_init_X1 : ∀ w ∈ wsX10, w ∈ wsX4_init := by decide +kernel
theorem i_X4_init_X2 : ∀ w ∈ wsX20, w ∈ wsX4_init := by decide +kernel
theorem i_X4_init_X3 : ∀ w ∈ wsX30, w ∈ wsX4_init := by decide +kernel
theorem i_X4_init_X4 : ∀ w ∈ wsX40, w ∈ wsX4_init := by decide +kernel
theorem h_X4_init : yX4_init.cls ≠ "java/lang/invoke/MethodHandle" ∧ yX4_init.cls ≠ "java/lang/invoke/VarHandle" ∧ (parseMethodDescriptor yX4_init.desc).map (fun d => d.parameters.length) = some 0 := by decide +kernel
set_option maxHeartbeats 4000000 in
set_option maxRecDepth 100000 in
theorem c_X4_init (lz : Launch) (G : gG) : gIn lz yX4_init wsX4_init 3 43 461 G 4 [.null, .null, .null, .null, .null, .null, .null, .long 0] (fun u : RgS => wRg u G) (fun u => u.r 0) := by
  refine g_in (by decide) rfl (by decide) ?_
  intro pz ez sz mz bz tz cz h0 hx hb hr hml hown hts hlocks hin hK A hAe hA hP hD hS ls hl
  have hP : va_P G.1 vwCl ((h0, .inr (4, [.null, .null, .null, .null, .null, .null, .null, .long 0])) :: ([])) sz.heap := hP
  have hD : va_D A ((h0, .inr (4, [.null, .null, .null, .null, .null, .null, .null, .long 0])) :: ([])) := hD
  refine lv_aload_n hx hb dX4_init_0 rfl (lv_at hl 0 rfl) ?_
  refine W.objInit hx hb hown (hts (.methodLink RX4 3 objectInit) (by decide +kernel)) (hts (.instanceMethod objectInit) (by decide +kernel)) (hts (.code objectInit ⟨#[0xb1]⟩ 1 none) (List.mem_of_getElem? (i := 3) rfl)) rfl (by rw [hml]; exact hl.1) rfl dX4_init_1 (Nat.le_of_ble_eq_true rfl) (Nat.le_of_ble_eq_true rfl) ?_
  refine W.eq (g2 := F0 mz 4 ls []) rfl ?_
  refine lv_aload_n hx hb dX4_init_4 rfl (lv_at hl 0 rfl) ?_
  refine va_new (ci := 3) (fs := [.int 0, .null, .int 0, .int 0, .int 0, .int 0, .int 0]) (C := RX3) (T := TX3) (N := 7) hx hb hts i_X4_init_X3 tyX3 tyX3_ok hown (hts (.classLink RX4 9 RX3) (by decide +kernel)) (hts (.instantiable RX3 7) (by decide +kernel)) (hts (.initialized RX3) (by decide +kernel)) hK.1.1 hP hD hS hA rfl (fun j hj => by rcases (show j = 0 ∨ j = 1 ∨ j = 2 ∨ j = 3 ∨ j = 4 ∨ j = 5 ∨ j = 6 by omega) with rfl | rfl | rfl | rfl | rfl | rfl | rfl <;> rfl) (Nat.le_of_ble_eq_true rfl) (Nat.le_of_ble_eq_true rfl) dX4_init_5 (fun q1 H hP hD hS => ?_)
  refine W.widen (k := 1) (n := 7) (Nat.le_of_ble_eq_true rfl) (Nat.le_of_ble_eq_true rfl) ?_
  refine lv_dup hx hb dX4_init_8 rfl ?_
  refine g_mkN (ws := (h0, .inr (4, [.null, .null, .null, .null, .null, .null, .null, .long 0])) :: ([])) (rest := [.ref q1, .ref h0]) (nL := 2) hx hb hml hown hts (c_X3_init lz G) gX4_init_X3_init_n11 rfl rfl hK.2.2.1 (hts (.initialized RX3) (by decide +kernel)) (hts (.instanceMethod yX3_init) (by decide +kernel)) h_X3_init ⟨(Nat.le_of_ble_eq_true rfl), (Nat.le_of_ble_eq_true rfl)⟩ hK hP hD hS hA hl.1 (Nat.le_of_ble_eq_true rfl) ⟨(Nat.le_of_ble_eq_true rfl), (Nat.le_of_ble_eq_true rfl)⟩ dX4_init_9 (fun u2 H locs hu hPn hDn hS => ?_)
  subst hu
  have hP := hPn
  have hD := hDn
  have hP : va_P G.1 vwCl ((h0, .inr (4, [.null, .null, .null, .null, .null, .null, .null, .long 0])) :: (wSc u2 G.2.1 sc0)) H := hP
  have hD : va_D A ((h0, .inr (4, [.null, .null, .null, .null, .null, .null, .null, .long 0])) :: (wSc u2 G.2.1 sc0)) := hD
  refine W.widen (k := 2) (n := 127) (Nat.le_of_ble_eq_true rfl) (Nat.le_of_ble_eq_true rfl) ?_
  refine va_putF (D := G.1) (ci := 4) (v := .ref (u2 0)) (ty := (.object "WhisperRing$Script")) (C := RX4) (T := TX4) (N := 8) hx hb hts i_X4_init_X4 tyX4 tyX4_ok nmX4 hown hK.1.1 hP hD hS 0 rfl rfl 0 (by decide) (hts (.fieldLink RX4 12 "WhisperRing" "script" "LWhisperRing$Script;") (by decide +kernel)) (fun _ h9 => h9) rfl hin rfl (by decide +kernel) rfl rfl (Nat.le_of_ble_eq_true rfl) dX4_init_12 (fun H locs hP hD hS => ?_)
  have hP : va_P G.1 vwCl ((h0, .inr (4, [.ref (u2 0), .null, .null, .null, .null, .null, .null, .long 0])) :: (wSc u2 G.2.1 sc0)) H := hP
  have hD : va_D A ((h0, .inr (4, [.ref (u2 0), .null, .null, .null, .null, .null, .null, .long 0])) :: (wSc u2 G.2.1 sc0)) := hD
  refine lv_aload_n hx hb dX4_init_15 rfl (lv_at hl 0 rfl) ?_
  refine va_new (ci := 1) (fs := [.int 0, .null, .null, .null]) (C := RX1) (T := TX1) (N := 4) hx hb hts i_X4_init_X1 tyX1 tyX1_ok hown (hts (.classLink RX4 16 RX1) (by decide +kernel)) (hts (.instantiable RX1 4) (by decide +kernel)) (hts (.initialized RX1) (by decide +kernel)) hK.1.1 hP hD hS hA rfl (fun j hj => by rcases (show j = 0 ∨ j = 1 ∨ j = 2 ∨ j = 3 by omega) with rfl | rfl | rfl | rfl <;> rfl) (Nat.le_of_ble_eq_true rfl) (Nat.le_of_ble_eq_true rfl) dX4_init_16 (fun q3 H hP hD hS => ?_)
  refine W.widen (k := 3) (n := 131) (Nat.le_of_ble_eq_true rfl) (Nat.le_of_ble_eq_true rfl) ?_
  refine lv_dup hx hb dX4_init_19 rfl ?_
  refine g_mkN (ws := (h0, .inr (4, [.ref (u2 0), .null, .null, .null, .null, .null, .null, .long 0])) :: (wSc u2 G.2.1 sc0)) (rest := [.ref q3, .ref h0]) (nL := 2) hx hb hml hown hts (c_X1_init lz G) gX4_init_X1_init_n18 rfl rfl hK.2.2.2.1 (hts (.initialized RX1) (by decide +kernel)) (hts (.instanceMethod yX1_init) (by decide +kernel)) h_X1_init ⟨(Nat.le_of_ble_eq_true rfl), (Nat.le_of_ble_eq_true rfl)⟩ hK hP hD hS hA hl.1 (Nat.le_of_ble_eq_true rfl) ⟨(Nat.le_of_ble_eq_true rfl), (Nat.le_of_ble_eq_true rfl)⟩ dX4_init_20 (fun u4 H locs hu hPn hDn hS => ?_)
  subst hu
  have hP := hPn
  have hD := hDn
  have hP : va_P G.1 vwCl ((h0, .inr (4, [.ref (u2 0), .null, .null, .null, .null, .null, .null, .long 0])) :: (wSc u2 G.2.1 sc0 ++ wHe u4 G.2.1 he0)) H := hP
  have hD : va_D A ((h0, .inr (4, [.ref (u2 0), .null, .null, .null, .null, .null, .null, .long 0])) :: (wSc u2 G.2.1 sc0 ++ wHe u4 G.2.1 he0)) := hD
  refine W.widen (k := 6) (n := 149) (Nat.le_of_ble_eq_true rfl) (Nat.le_of_ble_eq_true rfl) ?_
  refine va_putF (D := G.1) (ci := 4) (v := .ref (u4 0)) (ty := (.object "WhisperRing$Hearsay")) (C := RX4) (T := TX4) (N := 8) hx hb hts i_X4_init_X4 tyX4 tyX4_ok nmX4 hown hK.1.1 hP hD hS 0 rfl rfl 1 (by decide) (hts (.fieldLink RX4 19 "WhisperRing" "hearsay" "LWhisperRing$Hearsay;") (by decide +kernel)) (fun _ h9 => h9) rfl hin rfl (by decide +kernel) rfl rfl (Nat.le_of_ble_eq_true rfl) dX4_init_23 (fun H locs hP hD hS => ?_)
  have hP : va_P G.1 vwCl ((h0, .inr (4, [.ref (u2 0), .ref (u4 0), .null, .null, .null, .null, .null, .long 0])) :: (wSc u2 G.2.1 sc0 ++ wHe u4 G.2.1 he0)) H := hP
  have hD : va_D A ((h0, .inr (4, [.ref (u2 0), .ref (u4 0), .null, .null, .null, .null, .null, .long 0])) :: (wSc u2 G.2.1 sc0 ++ wHe u4 G.2.1 he0)) := hD
  refine lv_aload_n hx hb dX4_init_26 rfl (lv_at hl 0 rfl) ?_
  refine lv_iconst (v := 2) hx hb dX4_init_27 (by decide) ?_
  refine g_newM (N := 2) hx hb hown (hts (.classLink RX4 23 RX2) (by decide +kernel)) hK hP hD hS hA (by decide) (by decide) (Nat.le_of_ble_eq_true rfl) (Nat.le_of_ble_eq_true rfl) (Nat.le_of_ble_eq_true rfl) dX4_init_28 (fun q5 H hP hD hS => ?_)
  have hP : va_P G.1 vwCl ((h0, .inr (4, [.ref (u2 0), .ref (u4 0), .null, .null, .null, .null, .null, .long 0])) :: (wSc u2 G.2.1 sc0 ++ wHe u4 G.2.1 he0 ++ [(q5, .inl (G.2.2.2, 2, .inr (.inr (.inr (.inr (fun _ => none))))))])) H := hP
  have hD : va_D A ((h0, .inr (4, [.ref (u2 0), .ref (u4 0), .null, .null, .null, .null, .null, .long 0])) :: (wSc u2 G.2.1 sc0 ++ wHe u4 G.2.1 he0 ++ [(q5, .inl (G.2.2.2, 2, .inr (.inr (.inr (.inr (fun _ => none))))))])) := hD
  refine W.widen (k := 7) (n := 151) (Nat.le_of_ble_eq_true rfl) (Nat.le_of_ble_eq_true rfl) ?_
  refine va_putF (D := G.1) (ci := 4) (v := .ref q5) (ty := (.array (.object "WhisperRing$Moment"))) (C := RX4) (T := TX4) (N := 8) hx hb hts i_X4_init_X4 tyX4 tyX4_ok nmX4 hown hK.1.1 hP hD hS 0 rfl rfl 2 (by decide) (hts (.fieldLink RX4 25 "WhisperRing" "images" "[LWhisperRing$Moment;") (by decide +kernel)) (fun _ h9 => h9) rfl hin rfl (by decide +kernel) rfl rfl (Nat.le_of_ble_eq_true rfl) dX4_init_31 (fun H locs hP hD hS => ?_)
  have hP : va_P G.1 vwCl ((h0, .inr (4, [.ref (u2 0), .ref (u4 0), .ref q5, .null, .null, .null, .null, .long 0])) :: (wSc u2 G.2.1 sc0 ++ wHe u4 G.2.1 he0 ++ [(q5, .inl (G.2.2.2, 2, .inr (.inr (.inr (.inr (fun _ => none))))))])) H := hP
  have hD : va_D A ((h0, .inr (4, [.ref (u2 0), .ref (u4 0), .ref q5, .null, .null, .null, .null, .long 0])) :: (wSc u2 G.2.1 sc0 ++ wHe u4 G.2.1 he0 ++ [(q5, .inl (G.2.2.2, 2, .inr (.inr (.inr (.inr (fun _ => none))))))])) := hD
  refine lv_iconst (v := 0) hx hb dX4_init_34 (by decide) ?_
  refine lv_istore_n (lv' := [(1, .int 0), (0, .ref h0)]) hx hb dX4_init_35 rfl hl (by decide) rfl (fun ls hl => ?_)
  refine lv_iload_n hx hb dX4_init_36 rfl (lv_at hl 0 rfl) ?_
  refine lv_iconst (v := 2) hx hb dX4_init_37 (by decide) ?_
  refine lv_icmp_ge (tgt := 60) hx hb dX4_init_38 (by decide) (fun c_38 => False.elim (by revert c_38; decide)) (fun c_38 => ?_)
  refine lv_aload_n hx hb dX4_init_41 rfl (lv_at hl 1 rfl) ?_
  refine va_get (D := G.1) (ci := 4) (v := .ref q5) (C := RX4) (T := TX4) (N := 8) hx hb hts i_X4_init_X4 hown hK.1.1 hP 0 rfl rfl 2 (by decide) (hts (.fieldLink RX4 25 "WhisperRing" "images" "[LWhisperRing$Moment;") (by decide +kernel)) (fun _ h9 => h9) rfl dX4_init_42 ?_
  refine lv_iload_n hx hb dX4_init_45 rfl (lv_at hl 0 rfl) ?_
  refine va_new (ci := 2) (fs := [.int 0, .int 0, .int 0, .int 0, .null, .null, .null, .null, .null, .null]) (C := RX2) (T := TX2) (N := 10) hx hb hts i_X4_init_X2 tyX2 tyX2_ok hown (hts (.classLink RX4 23 RX2) (by decide +kernel)) (hts (.instantiable RX2 10) (by decide +kernel)) (hts (.initialized RX2) (by decide +kernel)) hK.1.1 hP hD hS hA rfl (fun j hj => by rcases (show j = 0 ∨ j = 1 ∨ j = 2 ∨ j = 3 ∨ j = 4 ∨ j = 5 ∨ j = 6 ∨ j = 7 ∨ j = 8 ∨ j = 9 by omega) with rfl | rfl | rfl | rfl | rfl | rfl | rfl | rfl | rfl | rfl <;> rfl) (Nat.le_of_ble_eq_true rfl) (Nat.le_of_ble_eq_true rfl) dX4_init_46 (fun q6 H hP hD hS => ?_)
  refine W.widen (k := 8) (n := 161) (Nat.le_of_ble_eq_true rfl) (Nat.le_of_ble_eq_true rfl) ?_
  refine lv_dup hx hb dX4_init_49 rfl ?_
  refine g_mkN (ws := (h0, .inr (4, [.ref (u2 0), .ref (u4 0), .ref q5, .null, .null, .null, .null, .long 0])) :: (wSc u2 G.2.1 sc0 ++ wHe u4 G.2.1 he0 ++ [(q5, .inl (G.2.2.2, 2, .inr (.inr (.inr (.inr (fun _ => none))))))])) (rest := [.ref q6, .int 0, .ref q5]) (nL := 2) hx hb hml hown hts (c_X2_init lz G) gX4_init_X2_init_n29 rfl rfl hK.2.2.2.2.1 (hts (.initialized RX2) (by decide +kernel)) (hts (.instanceMethod yX2_init) (by decide +kernel)) h_X2_init ⟨(Nat.le_of_ble_eq_true rfl), (Nat.le_of_ble_eq_true rfl)⟩ hK hP hD hS hA hl.1 (Nat.le_of_ble_eq_true rfl) ⟨(Nat.le_of_ble_eq_true rfl), (Nat.le_of_ble_eq_true rfl)⟩ dX4_init_50 (fun u7 H locs hu hPn hDn hS => ?_)
  subst hu
  have hP := hPn
  have hD := hDn
  have hP : va_P G.1 vwCl ((h0, .inr (4, [.ref (u2 0), .ref (u4 0), .ref q5, .null, .null, .null, .null, .long 0])) :: (wSc u2 G.2.1 sc0 ++ wHe u4 G.2.1 he0 ++ [(q5, .inl (G.2.2.2, 2, .inr (.inr (.inr (.inr (fun _ => none))))))] ++ wMo u7 G.2.1 mo0)) H := hP
  have hD : va_D A ((h0, .inr (4, [.ref (u2 0), .ref (u4 0), .ref q5, .null, .null, .null, .null, .long 0])) :: (wSc u2 G.2.1 sc0 ++ wHe u4 G.2.1 he0 ++ [(q5, .inl (G.2.2.2, 2, .inr (.inr (.inr (.inr (fun _ => none))))))] ++ wMo u7 G.2.1 mo0)) := hD
  refine W.widen (k := 14) (n := 211) (Nat.le_of_ble_eq_true rfl) (Nat.le_of_ble_eq_true rfl) ?_
  have hP : va_P G.1 vwCl ((h0, .inr (4, [.ref (u2 0), .ref (u4 0), .ref q5, .null, .null, .null, .null, .long 0])) :: ((wSc u2 G.2.1 sc0 ++ wHe u4 G.2.1 he0) ++ ([(q5, .inl (G.2.2.2, 2, .inr (.inr (.inr (.inr (fun _ => none))))))] ++ wMo u7 G.2.1 mo0))) H := by
    simp only [← List.append_assoc]
    exact hP
  have hD : va_D A ((h0, .inr (4, [.ref (u2 0), .ref (u4 0), .ref q5, .null, .null, .null, .null, .long 0])) :: ((wSc u2 G.2.1 sc0 ++ wHe u4 G.2.1 he0) ++ ([(q5, .inl (G.2.2.2, 2, .inr (.inr (.inr (.inr (fun _ => none))))))] ++ wMo u7 G.2.1 mo0))) := by
    simp only [← List.append_assoc]
    exact hD
  have hP := vP_perm (pm_front _ _ _) hP
  have hD := vD_perm (pm_front _ _ _) hD
  refine va_astq hx hb hK.1.1 hP hD hS 0 2 1 2 rfl rfl rfl rfl (i := 0) (show vp_in 0 2 from vp_in_nI (n := 0) (by decide) (by decide)) dX4_init_53 (fun H locs hP hD hS => ?_)
  have hP : va_P G.1 vwCl (([(q5, .inl (G.2.2.2, 2, .inr (.inr (.inr (.inr (va_up (fun _ => none) 0 (some (u7 0))))))))] ++ wMo u7 G.2.1 mo0) ++ ((h0, .inr (4, [.ref (u2 0), .ref (u4 0), .ref q5, .null, .null, .null, .null, .long 0])) :: (wSc u2 G.2.1 sc0 ++ wHe u4 G.2.1 he0))) H := hP
  have hD : va_D A (([(q5, .inl (G.2.2.2, 2, .inr (.inr (.inr (.inr (va_up (fun _ => none) 0 (some (u7 0))))))))] ++ wMo u7 G.2.1 mo0) ++ ((h0, .inr (4, [.ref (u2 0), .ref (u4 0), .ref q5, .null, .null, .null, .null, .long 0])) :: (wSc u2 G.2.1 sc0 ++ wHe u4 G.2.1 he0))) := hD
  have hP := vP_perm (pm_front _ _ _).symm hP
  have hD := vD_perm (pm_front _ _ _).symm hD
  simp only [← List.append_assoc] at hP hD
  have hP : va_P G.1 vwCl ((h0, .inr (4, [.ref (u2 0), .ref (u4 0), .ref q5, .null, .null, .null, .null, .long 0])) :: (wSc u2 G.2.1 sc0 ++ wHe u4 G.2.1 he0 ++ [(q5, .inl (G.2.2.2, 2, .inr (.inr (.inr (.inr (va_up (fun _ => none) 0 (some (u7 0))))))))] ++ wMo u7 G.2.1 mo0)) H := hP
  have hD : va_D A ((h0, .inr (4, [.ref (u2 0), .ref (u4 0), .ref q5, .null, .null, .null, .null, .long 0])) :: (wSc u2 G.2.1 sc0 ++ wHe u4 G.2.1 he0 ++ [(q5, .inl (G.2.2.2, 2, .inr (.inr (.inr (.inr (va_up (fun _ => none) 0 (some (u7 0))))))))] ++ wMo u7 G.2.1 mo0)) := hD
  refine lv_iinc (v := 1) (lv' := [(1, .int 1), (0, .ref h0)]) hx hb dX4_init_54 hl (k := 0) rfl (by decide) (by decide) rfl (fun ls hl => ?_)
  refine lv_goto (tgt := 36) hx hb dX4_init_57 (by decide) ?_
  refine lv_iload_n hx hb dX4_init_36 rfl (lv_at hl 0 rfl) ?_
  refine lv_iconst (v := 2) hx hb dX4_init_37 (by decide) ?_
  refine lv_icmp_ge (tgt := 60) hx hb dX4_init_38 (by decide) (fun c_38 => False.elim (by revert c_38; decide)) (fun c_38 => ?_)
  refine lv_aload_n hx hb dX4_init_41 rfl (lv_at hl 1 rfl) ?_
  refine va_get (D := G.1) (ci := 4) (v := .ref q5) (C := RX4) (T := TX4) (N := 8) hx hb hts i_X4_init_X4 hown hK.1.1 hP 0 rfl rfl 2 (by decide) (hts (.fieldLink RX4 25 "WhisperRing" "images" "[LWhisperRing$Moment;") (by decide +kernel)) (fun _ h9 => h9) rfl dX4_init_42 ?_
  refine lv_iload_n hx hb dX4_init_45 rfl (lv_at hl 0 rfl) ?_
  refine va_new (ci := 2) (fs := [.int 0, .int 0, .int 0, .int 0, .null, .null, .null, .null, .null, .null]) (C := RX2) (T := TX2) (N := 10) hx hb hts i_X4_init_X2 tyX2 tyX2_ok hown (hts (.classLink RX4 23 RX2) (by decide +kernel)) (hts (.instantiable RX2 10) (by decide +kernel)) (hts (.initialized RX2) (by decide +kernel)) hK.1.1 hP hD hS hA rfl (fun j hj => by rcases (show j = 0 ∨ j = 1 ∨ j = 2 ∨ j = 3 ∨ j = 4 ∨ j = 5 ∨ j = 6 ∨ j = 7 ∨ j = 8 ∨ j = 9 by omega) with rfl | rfl | rfl | rfl | rfl | rfl | rfl | rfl | rfl | rfl <;> rfl) (Nat.le_of_ble_eq_true rfl) (Nat.le_of_ble_eq_true rfl) dX4_init_46 (fun q8 H hP hD hS => ?_)
  refine W.widen (k := 15) (n := 221) (Nat.le_of_ble_eq_true rfl) (Nat.le_of_ble_eq_true rfl) ?_
  refine lv_dup hx hb dX4_init_49 rfl ?_
  refine g_mkN (ws := (h0, .inr (4, [.ref (u2 0), .ref (u4 0), .ref q5, .null, .null, .null, .null, .long 0])) :: (wSc u2 G.2.1 sc0 ++ wHe u4 G.2.1 he0 ++ [(q5, .inl (G.2.2.2, 2, .inr (.inr (.inr (.inr (va_up (fun _ => none) 0 (some (u7 0))))))))] ++ wMo u7 G.2.1 mo0)) (rest := [.ref q8, .int 1, .ref q5]) (nL := 2) hx hb hml hown hts (c_X2_init lz G) gX4_init_X2_init_n29 rfl rfl hK.2.2.2.2.1 (hts (.initialized RX2) (by decide +kernel)) (hts (.instanceMethod yX2_init) (by decide +kernel)) h_X2_init ⟨(Nat.le_of_ble_eq_true rfl), (Nat.le_of_ble_eq_true rfl)⟩ hK hP hD hS hA hl.1 (Nat.le_of_ble_eq_true rfl) ⟨(Nat.le_of_ble_eq_true rfl), (Nat.le_of_ble_eq_true rfl)⟩ dX4_init_50 (fun u9 H locs hu hPn hDn hS => ?_)
  subst hu
  have hP := hPn
  have hD := hDn
  have hP : va_P G.1 vwCl ((h0, .inr (4, [.ref (u2 0), .ref (u4 0), .ref q5, .null, .null, .null, .null, .long 0])) :: (wSc u2 G.2.1 sc0 ++ wHe u4 G.2.1 he0 ++ [(q5, .inl (G.2.2.2, 2, .inr (.inr (.inr (.inr (va_up (fun _ => none) 0 (some (u7 0))))))))] ++ wMo u7 G.2.1 mo0 ++ wMo u9 G.2.1 mo0)) H := hP
  have hD : va_D A ((h0, .inr (4, [.ref (u2 0), .ref (u4 0), .ref q5, .null, .null, .null, .null, .long 0])) :: (wSc u2 G.2.1 sc0 ++ wHe u4 G.2.1 he0 ++ [(q5, .inl (G.2.2.2, 2, .inr (.inr (.inr (.inr (va_up (fun _ => none) 0 (some (u7 0))))))))] ++ wMo u7 G.2.1 mo0 ++ wMo u9 G.2.1 mo0)) := hD
  refine W.widen (k := 21) (n := 271) (Nat.le_of_ble_eq_true rfl) (Nat.le_of_ble_eq_true rfl) ?_
  have hP : va_P G.1 vwCl ((h0, .inr (4, [.ref (u2 0), .ref (u4 0), .ref q5, .null, .null, .null, .null, .long 0])) :: ((wSc u2 G.2.1 sc0 ++ wHe u4 G.2.1 he0) ++ ([(q5, .inl (G.2.2.2, 2, .inr (.inr (.inr (.inr (va_up (fun _ => none) 0 (some (u7 0))))))))] ++ wMo u7 G.2.1 mo0 ++ wMo u9 G.2.1 mo0))) H := by
    simp only [← List.append_assoc]
    exact hP
  have hD : va_D A ((h0, .inr (4, [.ref (u2 0), .ref (u4 0), .ref q5, .null, .null, .null, .null, .long 0])) :: ((wSc u2 G.2.1 sc0 ++ wHe u4 G.2.1 he0) ++ ([(q5, .inl (G.2.2.2, 2, .inr (.inr (.inr (.inr (va_up (fun _ => none) 0 (some (u7 0))))))))] ++ wMo u7 G.2.1 mo0 ++ wMo u9 G.2.1 mo0))) := by
    simp only [← List.append_assoc]
    exact hD
  have hP := vP_perm (pm_front _ _ _) hP
  have hD := vD_perm (pm_front _ _ _) hD
  refine va_astq hx hb hK.1.1 hP hD hS 0 2 8 2 rfl rfl rfl rfl (i := 1) (show vp_in 1 2 from vp_in_nI (n := 1) (by decide) (by decide)) dX4_init_53 (fun H locs hP hD hS => ?_)
  have hP : va_P G.1 vwCl (([(q5, .inl (G.2.2.2, 2, .inr (.inr (.inr (.inr (va_up (va_up (fun _ => none) 0 (some (u7 0))) 1 (some (u9 0))))))))] ++ wMo u7 G.2.1 mo0 ++ wMo u9 G.2.1 mo0) ++ ((h0, .inr (4, [.ref (u2 0), .ref (u4 0), .ref q5, .null, .null, .null, .null, .long 0])) :: (wSc u2 G.2.1 sc0 ++ wHe u4 G.2.1 he0))) H := hP
  have hD : va_D A (([(q5, .inl (G.2.2.2, 2, .inr (.inr (.inr (.inr (va_up (va_up (fun _ => none) 0 (some (u7 0))) 1 (some (u9 0))))))))] ++ wMo u7 G.2.1 mo0 ++ wMo u9 G.2.1 mo0) ++ ((h0, .inr (4, [.ref (u2 0), .ref (u4 0), .ref q5, .null, .null, .null, .null, .long 0])) :: (wSc u2 G.2.1 sc0 ++ wHe u4 G.2.1 he0))) := hD
  have hP := vP_perm (pm_front _ _ _).symm hP
  have hD := vD_perm (pm_front _ _ _).symm hD
  simp only [← List.append_assoc] at hP hD
  have hP : va_P G.1 vwCl ((h0, .inr (4, [.ref (u2 0), .ref (u4 0), .ref q5, .null, .null, .null, .null, .long 0])) :: (wSc u2 G.2.1 sc0 ++ wHe u4 G.2.1 he0 ++ [(q5, .inl (G.2.2.2, 2, .inr (.inr (.inr (.inr (va_up (va_up (fun _ => none) 0 (some (u7 0))) 1 (some (u9 0))))))))] ++ wMo u7 G.2.1 mo0 ++ wMo u9 G.2.1 mo0)) H := hP
  have hD : va_D A ((h0, .inr (4, [.ref (u2 0), .ref (u4 0), .ref q5, .null, .null, .null, .null, .long 0])) :: (wSc u2 G.2.1 sc0 ++ wHe u4 G.2.1 he0 ++ [(q5, .inl (G.2.2.2, 2, .inr (.inr (.inr (.inr (va_up (va_up (fun _ => none) 0 (some (u7 0))) 1 (some (u9 0))))))))] ++ wMo u7 G.2.1 mo0 ++ wMo u9 G.2.1 mo0)) := hD
  refine lv_iinc (v := 2) (lv' := [(1, .int 2), (0, .ref h0)]) hx hb dX4_init_54 hl (k := 0) rfl (by decide) (by decide) rfl (fun ls hl => ?_)
  refine lv_goto (tgt := 36) hx hb dX4_init_57 (by decide) ?_
  refine lv_iload_n hx hb dX4_init_36 rfl (lv_at hl 0 rfl) ?_
  refine lv_iconst (v := 2) hx hb dX4_init_37 (by decide) ?_
  refine lv_icmp_ge (tgt := 60) hx hb dX4_init_38 (by decide) (fun c_38 => ?_) (fun c_38 => False.elim (by revert c_38; decide))
  refine lv_aload_n hx hb dX4_init_60 rfl (lv_at hl 1 rfl) ?_
  refine lv_iconst (v := 2) hx hb dX4_init_61 (by decide) ?_
  refine g_newZ (N := 2) hx hb (hts (.arrayClass .boolean) (by decide +kernel)) hK.1 hP hD hS hA (by decide) (by decide) (Nat.le_of_ble_eq_true rfl) (Nat.le_of_ble_eq_true rfl) (Nat.le_of_ble_eq_true rfl) dX4_init_62 (fun q10 H hP hD hS => ?_)
  have hP : va_P G.1 vwCl ((h0, .inr (4, [.ref (u2 0), .ref (u4 0), .ref q5, .null, .null, .null, .null, .long 0])) :: (wSc u2 G.2.1 sc0 ++ wHe u4 G.2.1 he0 ++ [(q5, .inl (G.2.2.2, 2, .inr (.inr (.inr (.inr (va_up (va_up (fun _ => none) 0 (some (u7 0))) 1 (some (u9 0))))))))] ++ wMo u7 G.2.1 mo0 ++ wMo u9 G.2.1 mo0 ++ [(q10, .inl (G.2.2.1, 2, .inl (fun _ => 0)))])) H := hP
  have hD : va_D A ((h0, .inr (4, [.ref (u2 0), .ref (u4 0), .ref q5, .null, .null, .null, .null, .long 0])) :: (wSc u2 G.2.1 sc0 ++ wHe u4 G.2.1 he0 ++ [(q5, .inl (G.2.2.2, 2, .inr (.inr (.inr (.inr (va_up (va_up (fun _ => none) 0 (some (u7 0))) 1 (some (u9 0))))))))] ++ wMo u7 G.2.1 mo0 ++ wMo u9 G.2.1 mo0 ++ [(q10, .inl (G.2.2.1, 2, .inl (fun _ => 0)))])) := hD
  refine W.widen (k := 22) (n := 273) (Nat.le_of_ble_eq_true rfl) (Nat.le_of_ble_eq_true rfl) ?_
  refine va_putF (D := G.1) (ci := 4) (v := .ref q10) (ty := (.array .boolean)) (C := RX4) (T := TX4) (N := 8) hx hb hts i_X4_init_X4 tyX4 tyX4_ok nmX4 hown hK.1.1 hP hD hS 0 rfl rfl 3 (by decide) (hts (.fieldLink RX4 30 "WhisperRing" "kept" "[Z") (by decide +kernel)) (fun _ h9 => h9) rfl hin rfl (by decide +kernel) rfl rfl (Nat.le_of_ble_eq_true rfl) dX4_init_64 (fun H locs hP hD hS => ?_)
  have hP : va_P G.1 vwCl ((h0, .inr (4, [.ref (u2 0), .ref (u4 0), .ref q5, .ref q10, .null, .null, .null, .long 0])) :: (wSc u2 G.2.1 sc0 ++ wHe u4 G.2.1 he0 ++ [(q5, .inl (G.2.2.2, 2, .inr (.inr (.inr (.inr (va_up (va_up (fun _ => none) 0 (some (u7 0))) 1 (some (u9 0))))))))] ++ wMo u7 G.2.1 mo0 ++ wMo u9 G.2.1 mo0 ++ [(q10, .inl (G.2.2.1, 2, .inl (fun _ => 0)))])) H := hP
  have hD : va_D A ((h0, .inr (4, [.ref (u2 0), .ref (u4 0), .ref q5, .ref q10, .null, .null, .null, .long 0])) :: (wSc u2 G.2.1 sc0 ++ wHe u4 G.2.1 he0 ++ [(q5, .inl (G.2.2.2, 2, .inr (.inr (.inr (.inr (va_up (va_up (fun _ => none) 0 (some (u7 0))) 1 (some (u9 0))))))))] ++ wMo u7 G.2.1 mo0 ++ wMo u9 G.2.1 mo0 ++ [(q10, .inl (G.2.2.1, 2, .inl (fun _ => 0)))])) := hD
  refine lv_aload_n hx hb dX4_init_67 rfl (lv_at hl 1 rfl) ?_
  refine lv_bipush (v := 24) hx hb dX4_init_68 (by decide) ?_
  refine g_newI (N := 24) hx hb (hts (.arrayClass .int) (by decide +kernel)) hK.1 hP hD hS hA (by decide) (by decide) (Nat.le_of_ble_eq_true rfl) (Nat.le_of_ble_eq_true rfl) (Nat.le_of_ble_eq_true rfl) dX4_init_70 (fun q11 H hP hD hS => ?_)
  have hP : va_P G.1 vwCl ((h0, .inr (4, [.ref (u2 0), .ref (u4 0), .ref q5, .ref q10, .null, .null, .null, .long 0])) :: (wSc u2 G.2.1 sc0 ++ wHe u4 G.2.1 he0 ++ [(q5, .inl (G.2.2.2, 2, .inr (.inr (.inr (.inr (va_up (va_up (fun _ => none) 0 (some (u7 0))) 1 (some (u9 0))))))))] ++ wMo u7 G.2.1 mo0 ++ wMo u9 G.2.1 mo0 ++ [(q10, .inl (G.2.2.1, 2, .inl (fun _ => 0)))] ++ [(q11, .inl (G.2.1, 24, .inl (fun _ => 0)))])) H := hP
  have hD : va_D A ((h0, .inr (4, [.ref (u2 0), .ref (u4 0), .ref q5, .ref q10, .null, .null, .null, .long 0])) :: (wSc u2 G.2.1 sc0 ++ wHe u4 G.2.1 he0 ++ [(q5, .inl (G.2.2.2, 2, .inr (.inr (.inr (.inr (va_up (va_up (fun _ => none) 0 (some (u7 0))) 1 (some (u9 0))))))))] ++ wMo u7 G.2.1 mo0 ++ wMo u9 G.2.1 mo0 ++ [(q10, .inl (G.2.2.1, 2, .inl (fun _ => 0)))] ++ [(q11, .inl (G.2.1, 24, .inl (fun _ => 0)))])) := hD
  refine W.widen (k := 23) (n := 297) (Nat.le_of_ble_eq_true rfl) (Nat.le_of_ble_eq_true rfl) ?_
  refine va_putF (D := G.1) (ci := 4) (v := .ref q11) (ty := (.array .int)) (C := RX4) (T := TX4) (N := 8) hx hb hts i_X4_init_X4 tyX4 tyX4_ok nmX4 hown hK.1.1 hP hD hS 0 rfl rfl 4 (by decide) (hts (.fieldLink RX4 34 "WhisperRing" "guessesAt" "[I") (by decide +kernel)) (fun _ h9 => h9) rfl hin rfl (by decide +kernel) rfl rfl (Nat.le_of_ble_eq_true rfl) dX4_init_72 (fun H locs hP hD hS => ?_)
  have hP : va_P G.1 vwCl ((h0, .inr (4, [.ref (u2 0), .ref (u4 0), .ref q5, .ref q10, .ref q11, .null, .null, .long 0])) :: (wSc u2 G.2.1 sc0 ++ wHe u4 G.2.1 he0 ++ [(q5, .inl (G.2.2.2, 2, .inr (.inr (.inr (.inr (va_up (va_up (fun _ => none) 0 (some (u7 0))) 1 (some (u9 0))))))))] ++ wMo u7 G.2.1 mo0 ++ wMo u9 G.2.1 mo0 ++ [(q10, .inl (G.2.2.1, 2, .inl (fun _ => 0)))] ++ [(q11, .inl (G.2.1, 24, .inl (fun _ => 0)))])) H := hP
  have hD : va_D A ((h0, .inr (4, [.ref (u2 0), .ref (u4 0), .ref q5, .ref q10, .ref q11, .null, .null, .long 0])) :: (wSc u2 G.2.1 sc0 ++ wHe u4 G.2.1 he0 ++ [(q5, .inl (G.2.2.2, 2, .inr (.inr (.inr (.inr (va_up (va_up (fun _ => none) 0 (some (u7 0))) 1 (some (u9 0))))))))] ++ wMo u7 G.2.1 mo0 ++ wMo u9 G.2.1 mo0 ++ [(q10, .inl (G.2.2.1, 2, .inl (fun _ => 0)))] ++ [(q11, .inl (G.2.1, 24, .inl (fun _ => 0)))])) := hD
  refine lv_aload_n hx hb dX4_init_75 rfl (lv_at hl 1 rfl) ?_
  refine va_new (ci := 0) (fs := [.int 0, .int 0, .int 0, .null, .null, .null]) (C := RX0) (T := TX0) (N := 6) hx hb hts i_X4_init_X0 tyX0 tyX0_ok hown (hts (.classLink RX4 38 RX0) (by decide +kernel)) (hts (.instantiable RX0 6) (by decide +kernel)) (hts (.initialized RX0) (by decide +kernel)) hK.1.1 hP hD hS hA rfl (fun j hj => by rcases (show j = 0 ∨ j = 1 ∨ j = 2 ∨ j = 3 ∨ j = 4 ∨ j = 5 by omega) with rfl | rfl | rfl | rfl | rfl | rfl <;> rfl) (Nat.le_of_ble_eq_true rfl) (Nat.le_of_ble_eq_true rfl) dX4_init_76 (fun q12 H hP hD hS => ?_)
  refine W.widen (k := 24) (n := 303) (Nat.le_of_ble_eq_true rfl) (Nat.le_of_ble_eq_true rfl) ?_
  refine lv_dup hx hb dX4_init_79 rfl ?_
  refine g_mkN (ws := (h0, .inr (4, [.ref (u2 0), .ref (u4 0), .ref q5, .ref q10, .ref q11, .null, .null, .long 0])) :: (wSc u2 G.2.1 sc0 ++ wHe u4 G.2.1 he0 ++ [(q5, .inl (G.2.2.2, 2, .inr (.inr (.inr (.inr (va_up (va_up (fun _ => none) 0 (some (u7 0))) 1 (some (u9 0))))))))] ++ wMo u7 G.2.1 mo0 ++ wMo u9 G.2.1 mo0 ++ [(q10, .inl (G.2.2.1, 2, .inl (fun _ => 0)))] ++ [(q11, .inl (G.2.1, 24, .inl (fun _ => 0)))])) (rest := [.ref q12, .ref h0]) (nL := 2) hx hb hml hown hts (c_X0_init lz G) gX4_init_X0_init_n40 rfl rfl hK.2.2.2.2.2.1 (hts (.initialized RX0) (by decide +kernel)) (hts (.instanceMethod yX0_init) (by decide +kernel)) h_X0_init ⟨(Nat.le_of_ble_eq_true rfl), (Nat.le_of_ble_eq_true rfl)⟩ hK hP hD hS hA hl.1 (Nat.le_of_ble_eq_true rfl) ⟨(Nat.le_of_ble_eq_true rfl), (Nat.le_of_ble_eq_true rfl)⟩ dX4_init_80 (fun u13 H locs hu hPn hDn hS => ?_)
  subst hu
  have hP := hPn
  have hD := hDn
  have hP : va_P G.1 vwCl ((h0, .inr (4, [.ref (u2 0), .ref (u4 0), .ref q5, .ref q10, .ref q11, .null, .null, .long 0])) :: (wSc u2 G.2.1 sc0 ++ wHe u4 G.2.1 he0 ++ [(q5, .inl (G.2.2.2, 2, .inr (.inr (.inr (.inr (va_up (va_up (fun _ => none) 0 (some (u7 0))) 1 (some (u9 0))))))))] ++ wMo u7 G.2.1 mo0 ++ wMo u9 G.2.1 mo0 ++ [(q10, .inl (G.2.2.1, 2, .inl (fun _ => 0)))] ++ [(q11, .inl (G.2.1, 24, .inl (fun _ => 0)))] ++ wHa u13 G.2.1 ha0)) H := hP
  have hD : va_D A ((h0, .inr (4, [.ref (u2 0), .ref (u4 0), .ref q5, .ref q10, .ref q11, .null, .null, .long 0])) :: (wSc u2 G.2.1 sc0 ++ wHe u4 G.2.1 he0 ++ [(q5, .inl (G.2.2.2, 2, .inr (.inr (.inr (.inr (va_up (va_up (fun _ => none) 0 (some (u7 0))) 1 (some (u9 0))))))))] ++ wMo u7 G.2.1 mo0 ++ wMo u9 G.2.1 mo0 ++ [(q10, .inl (G.2.2.1, 2, .inl (fun _ => 0)))] ++ [(q11, .inl (G.2.1, 24, .inl (fun _ => 0)))] ++ wHa u13 G.2.1 ha0)) := hD
  refine W.widen (k := 33) (n := 379) (Nat.le_of_ble_eq_true rfl) (Nat.le_of_ble_eq_true rfl) ?_
  refine va_put (D := G.1) (ci := 4) (v := .ref (u13 0)) (ty := (.object "WhisperRing$Hall")) (C := RX4) (T := TX4) (N := 8) hx hb hts i_X4_init_X4 tyX4 tyX4_ok nmX4 hown hK.1.1 hP hD hS 0 rfl rfl 5 (by decide) (hts (.fieldLink RX4 41 "WhisperRing" "hall" "LWhisperRing$Hall;") (by decide +kernel)) (fun _ h9 => h9) rfl (by decide +kernel) rfl rfl (Nat.le_of_ble_eq_true rfl) dX4_init_83 (fun H locs hP hD hS => ?_)
  have hP : va_P G.1 vwCl ((h0, .inr (4, [.ref (u2 0), .ref (u4 0), .ref q5, .ref q10, .ref q11, .ref (u13 0), .null, .long 0])) :: (wSc u2 G.2.1 sc0 ++ wHe u4 G.2.1 he0 ++ [(q5, .inl (G.2.2.2, 2, .inr (.inr (.inr (.inr (va_up (va_up (fun _ => none) 0 (some (u7 0))) 1 (some (u9 0))))))))] ++ wMo u7 G.2.1 mo0 ++ wMo u9 G.2.1 mo0 ++ [(q10, .inl (G.2.2.1, 2, .inl (fun _ => 0)))] ++ [(q11, .inl (G.2.1, 24, .inl (fun _ => 0)))] ++ wHa u13 G.2.1 ha0)) H := hP
  have hD : va_D A ((h0, .inr (4, [.ref (u2 0), .ref (u4 0), .ref q5, .ref q10, .ref q11, .ref (u13 0), .null, .long 0])) :: (wSc u2 G.2.1 sc0 ++ wHe u4 G.2.1 he0 ++ [(q5, .inl (G.2.2.2, 2, .inr (.inr (.inr (.inr (va_up (va_up (fun _ => none) 0 (some (u7 0))) 1 (some (u9 0))))))))] ++ wMo u7 G.2.1 mo0 ++ wMo u9 G.2.1 mo0 ++ [(q10, .inl (G.2.2.1, 2, .inl (fun _ => 0)))] ++ [(q11, .inl (G.2.1, 24, .inl (fun _ => 0)))] ++ wHa u13 G.2.1 ha0)) := hD
  refine lv_aload_n hx hb dX4_init_86 rfl (lv_at hl 1 rfl) ?_
  refine va_new (ci := 0) (fs := [.int 0, .int 0, .int 0, .null, .null, .null]) (C := RX0) (T := TX0) (N := 6) hx hb hts i_X4_init_X0 tyX0 tyX0_ok hown (hts (.classLink RX4 38 RX0) (by decide +kernel)) (hts (.instantiable RX0 6) (by decide +kernel)) (hts (.initialized RX0) (by decide +kernel)) hK.1.1 hP hD hS hA rfl (fun j hj => by rcases (show j = 0 ∨ j = 1 ∨ j = 2 ∨ j = 3 ∨ j = 4 ∨ j = 5 by omega) with rfl | rfl | rfl | rfl | rfl | rfl <;> rfl) (Nat.le_of_ble_eq_true rfl) (Nat.le_of_ble_eq_true rfl) dX4_init_87 (fun q14 H hP hD hS => ?_)
  refine W.widen (k := 34) (n := 385) (Nat.le_of_ble_eq_true rfl) (Nat.le_of_ble_eq_true rfl) ?_
  refine lv_dup hx hb dX4_init_90 rfl ?_
  refine g_mkN (ws := (h0, .inr (4, [.ref (u2 0), .ref (u4 0), .ref q5, .ref q10, .ref q11, .ref (u13 0), .null, .long 0])) :: (wSc u2 G.2.1 sc0 ++ wHe u4 G.2.1 he0 ++ [(q5, .inl (G.2.2.2, 2, .inr (.inr (.inr (.inr (va_up (va_up (fun _ => none) 0 (some (u7 0))) 1 (some (u9 0))))))))] ++ wMo u7 G.2.1 mo0 ++ wMo u9 G.2.1 mo0 ++ [(q10, .inl (G.2.2.1, 2, .inl (fun _ => 0)))] ++ [(q11, .inl (G.2.1, 24, .inl (fun _ => 0)))] ++ wHa u13 G.2.1 ha0)) (rest := [.ref q14, .ref h0]) (nL := 2) hx hb hml hown hts (c_X0_init lz G) gX4_init_X0_init_n40 rfl rfl hK.2.2.2.2.2.1 (hts (.initialized RX0) (by decide +kernel)) (hts (.instanceMethod yX0_init) (by decide +kernel)) h_X0_init ⟨(Nat.le_of_ble_eq_true rfl), (Nat.le_of_ble_eq_true rfl)⟩ hK hP hD hS hA hl.1 (Nat.le_of_ble_eq_true rfl) ⟨(Nat.le_of_ble_eq_true rfl), (Nat.le_of_ble_eq_true rfl)⟩ dX4_init_91 (fun u15 H locs hu hPn hDn hS => ?_)
  subst hu
  have hP := hPn
  have hD := hDn
  have hP : va_P G.1 vwCl ((h0, .inr (4, [.ref (u2 0), .ref (u4 0), .ref q5, .ref q10, .ref q11, .ref (u13 0), .null, .long 0])) :: (wSc u2 G.2.1 sc0 ++ wHe u4 G.2.1 he0 ++ [(q5, .inl (G.2.2.2, 2, .inr (.inr (.inr (.inr (va_up (va_up (fun _ => none) 0 (some (u7 0))) 1 (some (u9 0))))))))] ++ wMo u7 G.2.1 mo0 ++ wMo u9 G.2.1 mo0 ++ [(q10, .inl (G.2.2.1, 2, .inl (fun _ => 0)))] ++ [(q11, .inl (G.2.1, 24, .inl (fun _ => 0)))] ++ wHa u13 G.2.1 ha0 ++ wHa u15 G.2.1 ha0)) H := hP
  have hD : va_D A ((h0, .inr (4, [.ref (u2 0), .ref (u4 0), .ref q5, .ref q10, .ref q11, .ref (u13 0), .null, .long 0])) :: (wSc u2 G.2.1 sc0 ++ wHe u4 G.2.1 he0 ++ [(q5, .inl (G.2.2.2, 2, .inr (.inr (.inr (.inr (va_up (va_up (fun _ => none) 0 (some (u7 0))) 1 (some (u9 0))))))))] ++ wMo u7 G.2.1 mo0 ++ wMo u9 G.2.1 mo0 ++ [(q10, .inl (G.2.2.1, 2, .inl (fun _ => 0)))] ++ [(q11, .inl (G.2.1, 24, .inl (fun _ => 0)))] ++ wHa u13 G.2.1 ha0 ++ wHa u15 G.2.1 ha0)) := hD
  refine W.widen (k := 43) (n := 461) (Nat.le_of_ble_eq_true rfl) (Nat.le_of_ble_eq_true rfl) ?_
  refine va_put (D := G.1) (ci := 4) (v := .ref (u15 0)) (ty := (.object "WhisperRing$Hall")) (C := RX4) (T := TX4) (N := 8) hx hb hts i_X4_init_X4 tyX4 tyX4_ok nmX4 hown hK.1.1 hP hD hS 0 rfl rfl 6 (by decide) (hts (.fieldLink RX4 45 "WhisperRing" "draft" "LWhisperRing$Hall;") (by decide +kernel)) (fun _ h9 => h9) rfl (by decide +kernel) rfl rfl (Nat.le_of_ble_eq_true rfl) dX4_init_94 (fun H locs hP hD hS => ?_)
  have hP : va_P G.1 vwCl ((h0, .inr (4, [.ref (u2 0), .ref (u4 0), .ref q5, .ref q10, .ref q11, .ref (u13 0), .ref (u15 0), .long 0])) :: (wSc u2 G.2.1 sc0 ++ wHe u4 G.2.1 he0 ++ [(q5, .inl (G.2.2.2, 2, .inr (.inr (.inr (.inr (va_up (va_up (fun _ => none) 0 (some (u7 0))) 1 (some (u9 0))))))))] ++ wMo u7 G.2.1 mo0 ++ wMo u9 G.2.1 mo0 ++ [(q10, .inl (G.2.2.1, 2, .inl (fun _ => 0)))] ++ [(q11, .inl (G.2.1, 24, .inl (fun _ => 0)))] ++ wHa u13 G.2.1 ha0 ++ wHa u15 G.2.1 ha0)) H := hP
  have hD : va_D A ((h0, .inr (4, [.ref (u2 0), .ref (u4 0), .ref q5, .ref q10, .ref q11, .ref (u13 0), .ref (u15 0), .long 0])) :: (wSc u2 G.2.1 sc0 ++ wHe u4 G.2.1 he0 ++ [(q5, .inl (G.2.2.2, 2, .inr (.inr (.inr (.inr (va_up (va_up (fun _ => none) 0 (some (u7 0))) 1 (some (u9 0))))))))] ++ wMo u7 G.2.1 mo0 ++ wMo u9 G.2.1 mo0 ++ [(q10, .inl (G.2.2.1, 2, .inl (fun _ => 0)))] ++ [(q11, .inl (G.2.1, 24, .inl (fun _ => 0)))] ++ wHa u13 G.2.1 ha0 ++ wHa u15 G.2.1 ha0)) := hD
  have pm : ((h0, .inr (4, [.ref (u2 0), .ref (u4 0), .ref q5, .ref q10, .ref q11, .ref (u13 0), .ref (u15 0), .long 0])) :: (wSc u2 G.2.1 sc0 ++ wHe u4 G.2.1 he0 ++ [(q5, .inl (G.2.2.2, 2, .inr (.inr (.inr (.inr (va_up (va_up (fun _ => none) 0 (some (u7 0))) 1 (some (u9 0))))))))] ++ wMo u7 G.2.1 mo0 ++ wMo u9 G.2.1 mo0 ++ [(q10, .inl (G.2.2.1, 2, .inl (fun _ => 0)))] ++ [(q11, .inl (G.2.1, 24, .inl (fun _ => 0)))] ++ wHa u13 G.2.1 ha0 ++ wHa u15 G.2.1 ha0) : va_W).Perm ([(h0, .inr (4, [.ref (u2 0), .ref (u4 0), .ref q5, .ref q10, .ref q11, .ref (u13 0), .ref (u15 0), .long 0]))] ++ (wSc u2 G.2.1 sc0 ++ (wHe u4 G.2.1 he0 ++ ([(q5, .inl (G.2.2.2, 2, .inr (.inr (.inr (.inr (va_up (va_up (fun _ => none) 0 (some (u7 0))) 1 (some (u9 0))))))))] ++ (wMo u7 G.2.1 mo0 ++ (wMo u9 G.2.1 mo0 ++ ([(q10, .inl (G.2.2.1, 2, .inl (fun _ => 0)))] ++ (wHa u15 G.2.1 ha0 ++ (wHa u13 G.2.1 ha0 ++ [(q11, .inl (G.2.1, 24, .inl (fun _ => 0)))])))))))))  := pm_rg _ _ _ _ _ _ _ _ _ _
  have hP := vP_perm pm hP
  have hD := vD_perm pm hD
  have hP := vP_ims (i := u7) (j := u9) hP
  have hD := vD_ims (i := u7) (j := u9) hD
  exact g_inret (w := fun u : RgS => wRg u G) (at0 := fun u => u.r 0) ((fun k => [h0, q5, q10, q11].getD k 0), u2, u4, u7, u9, u13, u15) hx hb hr hlocks rfl hP hD hS (Nat.le_refl _) (Nat.le_refl _) dX4_init_97
