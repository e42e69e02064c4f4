noncomputable def rItD (s : ScS) (h : HaS) (it : Int32) : ScS × HaS × Bool :=
  if s.tok = 1 then (if s.val = 104 then rNi s h else if s.val = 108 then (if s.told = 0 then rLo s h else (s, h, false)) else if s.val = 110 then (if it = 0 then rPl s h else (s, h, false)) else if s.val = 115 then (if h.mo.sayings < 8 then rSa s h else (s, h, false)) else (s, h, false)) else (s, h, false)
theorem rIt_ex : ∃ f : ScS → HaS → Int32 → ScS × HaS × Bool, ∀ s h it, f s h it = rItD s h it := ⟨rItD, fun _ _ _ => rfl⟩
noncomputable def rIt : ScS → HaS → Int32 → ScS × HaS × Bool := Classical.choose rIt_ex
theorem rIt_def (s : ScS) (h : HaS) (it : Int32) : rIt s h it = rItD s h it := Classical.choose_spec rIt_ex s h it
theorem haOK_add {h : HaS} (hh : haOK h) (p sp wa lo : Int32) : haOK (hAddS h p sp wa lo) := by
  obtain ⟨n, hn8, hn⟩ := hh
  have hnc : h.mo.sayings.toNatClampNeg = n := by rw [hn]; exact nI_clamp (by omega)
  show ∃ k : Nat, k ≤ 8 ∧ (moAdd h.mo h.mo.sayings.toNatClampNeg p sp wa lo).sayings = nI k
  rw [hnc]
  unfold moAdd
  split
  · rename_i c
    have : n < 8 := by
      rw [hn] at c
      exact (nI_ltI (by omega) (by decide)).mp (show nI n < nI 8 from c)
    exact ⟨n + 1, by omega, rfl⟩
  · exact ⟨n, hn8, hn⟩
theorem ok_rPl {s : ScS} {h : HaS} (hs : scOK s) (hh : haOK h) : scOK (rPl s h).1 ∧ haOK (rPl s h).2.1 := by
  unfold rPl
  split
  · exact ⟨scOK_stop (scOK_step hs), hh⟩
  · exact ⟨scOK_step hs, hh⟩
theorem ok_rLo {s : ScS} {h : HaS} (hs : scOK s) (hh : haOK h) : scOK (rLo s h).1 ∧ haOK (rLo s h).2.1 := by
  unfold rLo
  split
  · exact ⟨scOK_stop (scOK_told (scOK_step hs)), hh⟩
  · exact ⟨scOK_step hs, hh⟩
theorem ok_rNi {s : ScS} {h : HaS} (hs : scOK s) (hh : haOK h) : scOK (rNi s h).1 ∧ haOK (rNi s h).2.1 := by
  unfold rNi
  split
  · exact ⟨scOK_stop (scOK_step hs), hh⟩
  · exact ⟨scOK_step hs, hh⟩
theorem ok_rSa {s : ScS} {h : HaS} (hs : scOK s) (hh : haOK h) : scOK (rSa s h).1 ∧ haOK (rSa s h).2.1 := by
  unfold rSa
  have h1 := scOK_step hs
  have h2 := scOK_step h1
  have h3 := scOK_step h2
  have h4 := scOK_step h3
  split
  · split
    · split
      · split
        · split
          · exact ⟨scOK_stop h4, haOK_add hh _ _ _ _⟩
          · exact ⟨h4, haOK_add hh _ _ _ _⟩
        · exact ⟨h4, hh⟩
      · exact ⟨h3, hh⟩
    · exact ⟨h2, hh⟩
  · exact ⟨h1, hh⟩
theorem ok_rIt {s : ScS} {h : HaS} {it : Int32} (hs : scOK s) (hh : haOK h) : scOK (rIt s h it).1 ∧ haOK (rIt s h it).2.1 := by
  rw [rIt_def]
  unfold rItD
  repeat' split
  all_goals first
    | exact ok_rNi hs hh
    | exact ok_rLo hs hh
    | exact ok_rPl hs hh
    | exact ok_rSa hs hh
    | exact ⟨hs, hh⟩
theorem haOK_it {s : ScS} {h : HaS} {it : Int32} (hs : scOK s) (hh : haOK h) : haOK (rIt s h it).2.1 := (ok_rIt hs hh).2
theorem scOK_it {s : ScS} {h : HaS} {it : Int32} (hs : scOK s) (hh : haOK h) : scOK (rIt s h it).1 := (ok_rIt hs hh).1
theorem haOK_emp (h : HaS) : haOK (hEmp h) := ⟨0, by omega, rfl⟩
noncomputable def rLp : Nat → Nat → ScS → HaS → ScS × HaS × Int32
  | 0, it, s, h => (s, h, nI it)
  | f + 1, it, s, h => if s.tok = 0 then (s, h, nI it) else if (rIt s h (nI it)).2.2 then rLp f (it + 1) (rIt s h (nI it)).1 (rIt s h (nI it)).2.1 else ((rIt s h (nI it)).1, (rIt s h (nI it)).2.1, (-10) - (rIt s h (nI it)).1.tokAt)
theorem rLp_y {it : Nat} {s : ScS} {h : HaS} (hi : it < 120) (c : ¬ s.tok = 0) (c2 : (rIt s h (nI it)).2.2 = true) : rLp (120 - it) it s h = rLp (120 - (it + 1)) (it + 1) (rIt s h (nI it)).1 (rIt s h (nI it)).2.1 := by
  rw [show 120 - it = (120 - (it + 1)) + 1 by omega, rLp, if_neg c, if_pos c2]
theorem rLp_n {it : Nat} {s : ScS} {h : HaS} (hi : it < 120) (c : ¬ s.tok = 0) (c2 : (rIt s h (nI it)).2.2 = false) : rLp (120 - it) it s h = ((rIt s h (nI it)).1, (rIt s h (nI it)).2.1, (-10) - (rIt s h (nI it)).1.tokAt) := by
  rw [show 120 - it = (120 - (it + 1)) + 1 by omega, rLp, if_neg c, if_neg (by rw [c2]; decide)]
theorem rLp_e {it : Nat} {s : ScS} {h : HaS} (c : 120 ≤ it ∨ s.tok = 0) : rLp (120 - it) it s h = (s, h, nI it) := by
  rcases Nat.lt_or_ge it 120 with q | q
  · rw [show 120 - it = (120 - (it + 1)) + 1 by omega, rLp]
    rcases c with c | c
    · omega
    · rw [if_pos c]
  · rw [show 120 - it = 0 by omega, rLp]
noncomputable def rIntoD (s : ScS) (h : HaS) : ScS × HaS × Int32 := rLp 120 0 (scStep (s.size, s.bytes, 0, s.tokAt, s.tok, s.val, 0)) (hEmp h)
theorem rInto_ex : ∃ f : ScS → HaS → ScS × HaS × Int32, ∀ s h, f s h = rIntoD s h := ⟨rIntoD, fun _ _ => rfl⟩
noncomputable def rInto : ScS → HaS → ScS × HaS × Int32 := Classical.choose rInto_ex
theorem rInto_def (s : ScS) (h : HaS) : rInto s h = rIntoD s h := Classical.choose_spec rInto_ex s h
theorem i_X3_readItem_X0 : ∀ w ∈ wsX00, w ∈ wsX3_readItem := by decide +kernel
theorem i_X3_readItem_X2 : ∀ w ∈ wsX20, w ∈ wsX3_readItem := by decide +kernel
theorem i_X3_readItem_X3 : ∀ w ∈ wsX30, w ∈ wsX3_readItem := by decide +kernel
theorem h_X3_readItem : yX3_readItem.cls = RX3 ∧ yX3_readItem.cls ≠ "java/lang/invoke/MethodHandle" ∧ yX3_readItem.cls ≠ "java/lang/invoke/VarHandle" ∧ (parseMethodDescriptor yX3_readItem.desc).map (fun d => d.parameters.length) = some 2 := by decide +kernel
set_option maxHeartbeats 4000000 in
set_option maxRecDepth 100000 in
theorem c_X3_readItem (lz : Launch) (G : gG) (b a : Nat → Nat) (s : ScS) (h : HaS) (it : Int32) (hs : scOK s) (hh : haOK h) : gWr lz yX3_readItem wsX3_readItem 4 G [.ref (b 0), .ref (a 0), .int it] (wSc b G.2.1 s ++ wHa a G.2.1 h) (wSc b G.2.1 (rIt s h it).1 ++ wHa a G.2.1 (rIt s h it).2.1) (some (.int (bI (rIt s h it).2.2))) := by
  refine g_wr (by decide) rfl (Nat.le_of_ble_eq_true rfl) ?_
  intro pz ez sz mz bz tz cz hx hb hr hml hown hts hlocks hK A hAe hP hD hS ls hl
  have hl : lv_has ls 3 [(0, .ref (b 0)), (1, .ref (a 0)), (2, .int it)] := hl
  have f24 := hts (.fieldLink RX3 24 "WhisperRing$Script" "lossTold" "Z") (by decide +kernel)
  have f34 := hts (.fieldLink RX3 34 "WhisperRing$Script" "token" "I") (by decide +kernel)
  have f44 := hts (.fieldLink RX3 44 "WhisperRing$Script" "value" "I") (by decide +kernel)
  have f57 := hts (.fieldLink RX3 57 "WhisperRing$Hall" "now" "LWhisperRing$Moment;") (by decide +kernel)
  have f61 := hts (.fieldLink RX3 61 "WhisperRing$Moment" "sayings" "I") (by decide +kernel)
  refine lv_aload_n hx hb dX3_readItem_0 rfl (lv_at hl 0 rfl) ?_
  refine va_get (D := G.1) (ci := 3) (v := .int s.tok) (C := RX3) (T := TX3) (N := 7) hx hb hts i_X3_readItem_X3 hown hK.1 hP 0 rfl rfl 4 (by decide) f34 (fun _ h9 => h9) rfl dX3_readItem_1 ?_
  refine lv_iconst (v := 1) hx hb dX3_readItem_4 (by decide) ?_
  refine lv_icmp_eq (tgt := 10) hx hb dX3_readItem_5 (by decide) (fun c_1 => ?_) (fun c_1 => ?_)
  · skip
    refine lv_aload_n hx hb dX3_readItem_10 rfl (lv_at hl 0 rfl) ?_
    refine va_get (D := G.1) (ci := 3) (v := .int s.val) (C := RX3) (T := TX3) (N := 7) hx hb hts i_X3_readItem_X3 hown hK.1 hP 0 rfl rfl 5 (by decide) f44 (fun _ h9 => h9) rfl dX3_readItem_11 ?_
    by_cases k_2 : s.val = 104
    · refine lv_lookup (tgt := 95) (off := 81) hx hb dX3_readItem_14 (by decide) (by rw [k_2] <;> rfl) (by decide) ?_
      refine lv_aload_n hx hb dX3_readItem_95 rfl (lv_at hl 0 rfl) ?_
      refine lv_aload_n hx hb dX3_readItem_96 rfl (lv_at hl 1 rfl) ?_
      refine g_wrV (As := [.ref (a 0)]) (rest := []) (nL := 3) hx hb hml hown hts (c_X3_readNiche lz G b a s h hs hh) gX3_readItem_X3_readNiche rfl h_X3_readNiche ⟨Nat.le_of_ble_eq_true rfl, Nat.le_of_ble_eq_true rfl⟩ hK hP hD hS [0, 1, 2, 3, 4, 5, 6, 7, 8, 9, 10, 11] rfl rfl rfl (ws1 := wSc b G.2.1 ((rNi s h).1) ++ wHa a G.2.1 ((rNi s h).2.1)) rfl [b 0, b 1, a 0, a 1, a 2, a 3, a 4, a 5, a 6, a 7, a 8, a 9] rfl rfl (ci := 3) rfl rfl rfl rfl hl.1 rfl (Nat.le_of_ble_eq_true rfl) ⟨Nat.le_refl _, Nat.le_refl _⟩ dX3_readItem_97 (fun H locs hP hD hS => ?_)
      have hP : va_P G.1 vwCl (wSc b G.2.1 (rIt s h it).1 ++ wHa a G.2.1 (rIt s h it).2.1) H := by
        rw [rIt_def, rItD]
        (first | rw [if_pos c_1] | rw [if_neg (by rw [c_1]; decide)] | rw [if_neg c_1] | skip)
        (first | rw [if_pos k_2] | rw [if_neg (by rw [k_2]; decide)] | rw [if_neg k_2] | skip)
        exact hP
      exact g_wz hx hb hr hlocks hAe hP hS dX3_readItem_100 (by rw [rIt_def, rItD] <;> (first | done | rw [if_pos c_1] | rw [if_neg c_1] | skip) <;> (first | done | rw [if_pos k_2] | rw [if_neg k_2] | skip) <;> (first | done | (try simp only [c_1, k_2]) <;> rfl))
    · skip
      by_cases k_3 : s.val = 108
      · refine lv_lookup (tgt := 74) (off := 60) hx hb dX3_readItem_14 (by decide) (by rw [k_3] <;> rfl) (by decide) ?_
        refine lv_aload_n hx hb dX3_readItem_74 rfl (lv_at hl 0 rfl) ?_
        refine va_get (D := G.1) (ci := 3) (v := .int s.told) (C := RX3) (T := TX3) (N := 7) hx hb hts i_X3_readItem_X3 hown hK.1 hP 0 rfl rfl 6 (by decide) f24 (fun _ h9 => h9) rfl dX3_readItem_75 ?_
        refine lv_if_ne (tgt := 93) hx hb dX3_readItem_78 (by decide) (fun c_4 => ?_) (fun c_4 => ?_)
        · skip
          refine lv_iconst (v := 0) hx hb dX3_readItem_93 (by decide) ?_
          have hP : va_P G.1 vwCl (wSc b G.2.1 (rIt s h it).1 ++ wHa a G.2.1 (rIt s h it).2.1) sz.heap := by
            rw [rIt_def, rItD]
            (first | rw [if_pos c_1] | rw [if_neg (by rw [c_1]; decide)] | rw [if_neg c_1] | skip)
            (first | rw [if_pos k_2] | rw [if_neg (by rw [k_2]; decide)] | rw [if_neg k_2] | skip)
            (first | rw [if_pos k_3] | rw [if_neg (by rw [k_3]; decide)] | rw [if_neg k_3] | skip)
            (first | rw [if_pos c_4] | rw [if_neg (by rw [c_4]; decide)] | rw [if_neg c_4] | skip)
            exact hP
          exact g_wz hx hb hr hlocks hAe hP hS dX3_readItem_94 (by rw [rIt_def, rItD] <;> (first | done | rw [if_pos c_1] | rw [if_neg c_1] | skip) <;> (first | done | rw [if_pos k_2] | rw [if_neg k_2] | skip) <;> (first | done | rw [if_pos k_3] | rw [if_neg k_3] | skip) <;> (first | done | rw [if_pos c_4] | rw [if_neg c_4] | skip) <;> (first | done | (try simp only [c_1, k_2, k_3, c_4]) <;> rfl))
        · skip
          refine lv_aload_n hx hb dX3_readItem_81 rfl (lv_at hl 0 rfl) ?_
          refine lv_aload_n hx hb dX3_readItem_82 rfl (lv_at hl 1 rfl) ?_
          refine g_wrV (As := [.ref (a 0)]) (rest := []) (nL := 3) hx hb hml hown hts (c_X3_readLoss lz G b a s h hs hh) gX3_readItem_X3_readLoss rfl h_X3_readLoss ⟨Nat.le_of_ble_eq_true rfl, Nat.le_of_ble_eq_true rfl⟩ hK hP hD hS [0, 1, 2, 3, 4, 5, 6, 7, 8, 9, 10, 11] rfl rfl rfl (ws1 := wSc b G.2.1 ((rLo s h).1) ++ wHa a G.2.1 ((rLo s h).2.1)) rfl [b 0, b 1, a 0, a 1, a 2, a 3, a 4, a 5, a 6, a 7, a 8, a 9] rfl rfl (ci := 3) rfl rfl rfl rfl hl.1 rfl (Nat.le_of_ble_eq_true rfl) ⟨Nat.le_refl _, Nat.le_refl _⟩ dX3_readItem_83 (fun H locs hP hD hS => ?_)
          refine lv_if_eq (tgt := 93) hx hb dX3_readItem_86 (by decide) (fun c_5 => ?_) (fun c_5 => ?_)
          · skip
            have c_5 := bI_0 c_5
            refine lv_iconst (v := 0) hx hb dX3_readItem_93 (by decide) ?_
            have hP : va_P G.1 vwCl (wSc b G.2.1 (rIt s h it).1 ++ wHa a G.2.1 (rIt s h it).2.1) H := by
              rw [rIt_def, rItD]
              (first | rw [if_pos c_1] | rw [if_neg (by rw [c_1]; decide)] | rw [if_neg c_1] | skip)
              (first | rw [if_pos k_2] | rw [if_neg (by rw [k_2]; decide)] | rw [if_neg k_2] | skip)
              (first | rw [if_pos k_3] | rw [if_neg (by rw [k_3]; decide)] | rw [if_neg k_3] | skip)
              (first | rw [if_pos c_4] | rw [if_neg (by rw [c_4]; decide)] | rw [if_neg c_4] | skip)
              (first | rw [if_pos c_5] | rw [if_neg (by rw [c_5]; decide)] | rw [if_neg c_5] | skip)
              exact hP
            exact g_wz hx hb hr hlocks hAe hP hS dX3_readItem_94 (by rw [rIt_def, rItD] <;> (first | done | rw [if_pos c_1] | rw [if_neg c_1] | skip) <;> (first | done | rw [if_pos k_2] | rw [if_neg k_2] | skip) <;> (first | done | rw [if_pos k_3] | rw [if_neg k_3] | skip) <;> (first | done | rw [if_pos c_4] | rw [if_neg c_4] | skip) <;> (first | done | rw [if_pos c_5] | rw [if_neg c_5] | skip) <;> (first | done | (try simp only [c_1, k_2, k_3, c_4, c_5]) <;> rfl))
          · skip
            have c_5 := bI_1 c_5
            refine lv_iconst (v := 1) hx hb dX3_readItem_89 (by decide) ?_
            refine lv_goto (tgt := 94) hx hb dX3_readItem_90 (by decide) ?_
            have hP : va_P G.1 vwCl (wSc b G.2.1 (rIt s h it).1 ++ wHa a G.2.1 (rIt s h it).2.1) H := by
              rw [rIt_def, rItD]
              (first | rw [if_pos c_1] | rw [if_neg (by rw [c_1]; decide)] | rw [if_neg c_1] | skip)
              (first | rw [if_pos k_2] | rw [if_neg (by rw [k_2]; decide)] | rw [if_neg k_2] | skip)
              (first | rw [if_pos k_3] | rw [if_neg (by rw [k_3]; decide)] | rw [if_neg k_3] | skip)
              (first | rw [if_pos c_4] | rw [if_neg (by rw [c_4]; decide)] | rw [if_neg c_4] | skip)
              (first | rw [if_pos c_5] | rw [if_neg (by rw [c_5]; decide)] | rw [if_neg c_5] | skip)
              exact hP
            exact g_wz hx hb hr hlocks hAe hP hS dX3_readItem_94 (by rw [rIt_def, rItD] <;> (first | done | rw [if_pos c_1] | rw [if_neg c_1] | skip) <;> (first | done | rw [if_pos k_2] | rw [if_neg k_2] | skip) <;> (first | done | rw [if_pos k_3] | rw [if_neg k_3] | skip) <;> (first | done | rw [if_pos c_4] | rw [if_neg c_4] | skip) <;> (first | done | rw [if_pos c_5] | rw [if_neg c_5] | skip) <;> (first | done | (try simp only [c_1, k_2, k_3, c_4, c_5]) <;> rfl))
      · skip
        by_cases k_6 : s.val = 110
        · refine lv_lookup (tgt := 56) (off := 42) hx hb dX3_readItem_14 (by decide) (by rw [k_6] <;> rfl) (by decide) ?_
          refine lv_iload_n hx hb dX3_readItem_56 rfl (lv_at hl 2 rfl) ?_
          refine lv_if_ne (tgt := 72) hx hb dX3_readItem_57 (by decide) (fun c_7 => ?_) (fun c_7 => ?_)
          · skip
            refine lv_iconst (v := 0) hx hb dX3_readItem_72 (by decide) ?_
            have hP : va_P G.1 vwCl (wSc b G.2.1 (rIt s h it).1 ++ wHa a G.2.1 (rIt s h it).2.1) sz.heap := by
              rw [rIt_def, rItD]
              (first | rw [if_pos c_1] | rw [if_neg (by rw [c_1]; decide)] | rw [if_neg c_1] | skip)
              (first | rw [if_pos k_2] | rw [if_neg (by rw [k_2]; decide)] | rw [if_neg k_2] | skip)
              (first | rw [if_pos k_3] | rw [if_neg (by rw [k_3]; decide)] | rw [if_neg k_3] | skip)
              (first | rw [if_pos k_6] | rw [if_neg (by rw [k_6]; decide)] | rw [if_neg k_6] | skip)
              (first | rw [if_pos c_7] | rw [if_neg (by rw [c_7]; decide)] | rw [if_neg c_7] | skip)
              exact hP
            exact g_wz hx hb hr hlocks hAe hP hS dX3_readItem_73 (by rw [rIt_def, rItD] <;> (first | done | rw [if_pos c_1] | rw [if_neg c_1] | skip) <;> (first | done | rw [if_pos k_2] | rw [if_neg k_2] | skip) <;> (first | done | rw [if_pos k_3] | rw [if_neg k_3] | skip) <;> (first | done | rw [if_pos k_6] | rw [if_neg k_6] | skip) <;> (first | done | rw [if_pos c_7] | rw [if_neg c_7] | skip) <;> (first | done | (try simp only [c_1, k_2, k_3, k_6, c_7]) <;> rfl))
          · skip
            refine lv_aload_n hx hb dX3_readItem_60 rfl (lv_at hl 0 rfl) ?_
            refine lv_aload_n hx hb dX3_readItem_61 rfl (lv_at hl 1 rfl) ?_
            refine g_wrV (As := [.ref (a 0)]) (rest := []) (nL := 3) hx hb hml hown hts (c_X3_readPlaces lz G b a s h hs hh) gX3_readItem_X3_readPlaces rfl h_X3_readPlaces ⟨Nat.le_of_ble_eq_true rfl, Nat.le_of_ble_eq_true rfl⟩ hK hP hD hS [0, 1, 2, 3, 4, 5, 6, 7, 8, 9, 10, 11] rfl rfl rfl (ws1 := wSc b G.2.1 ((rPl s h).1) ++ wHa a G.2.1 ((rPl s h).2.1)) rfl [b 0, b 1, a 0, a 1, a 2, a 3, a 4, a 5, a 6, a 7, a 8, a 9] rfl rfl (ci := 3) rfl rfl rfl rfl hl.1 rfl (Nat.le_of_ble_eq_true rfl) ⟨Nat.le_refl _, Nat.le_refl _⟩ dX3_readItem_62 (fun H locs hP hD hS => ?_)
            refine lv_if_eq (tgt := 72) hx hb dX3_readItem_65 (by decide) (fun c_8 => ?_) (fun c_8 => ?_)
            · skip
              have c_8 := bI_0 c_8
              refine lv_iconst (v := 0) hx hb dX3_readItem_72 (by decide) ?_
              have hP : va_P G.1 vwCl (wSc b G.2.1 (rIt s h it).1 ++ wHa a G.2.1 (rIt s h it).2.1) H := by
                rw [rIt_def, rItD]
                (first | rw [if_pos c_1] | rw [if_neg (by rw [c_1]; decide)] | rw [if_neg c_1] | skip)
                (first | rw [if_pos k_2] | rw [if_neg (by rw [k_2]; decide)] | rw [if_neg k_2] | skip)
                (first | rw [if_pos k_3] | rw [if_neg (by rw [k_3]; decide)] | rw [if_neg k_3] | skip)
                (first | rw [if_pos k_6] | rw [if_neg (by rw [k_6]; decide)] | rw [if_neg k_6] | skip)
                (first | rw [if_pos c_7] | rw [if_neg (by rw [c_7]; decide)] | rw [if_neg c_7] | skip)
                (first | rw [if_pos c_8] | rw [if_neg (by rw [c_8]; decide)] | rw [if_neg c_8] | skip)
                exact hP
              exact g_wz hx hb hr hlocks hAe hP hS dX3_readItem_73 (by rw [rIt_def, rItD] <;> (first | done | rw [if_pos c_1] | rw [if_neg c_1] | skip) <;> (first | done | rw [if_pos k_2] | rw [if_neg k_2] | skip) <;> (first | done | rw [if_pos k_3] | rw [if_neg k_3] | skip) <;> (first | done | rw [if_pos k_6] | rw [if_neg k_6] | skip) <;> (first | done | rw [if_pos c_7] | rw [if_neg c_7] | skip) <;> (first | done | rw [if_pos c_8] | rw [if_neg c_8] | skip) <;> (first | done | (try simp only [c_1, k_2, k_3, k_6, c_7, c_8]) <;> rfl))
            · skip
              have c_8 := bI_1 c_8
              refine lv_iconst (v := 1) hx hb dX3_readItem_68 (by decide) ?_
              refine lv_goto (tgt := 73) hx hb dX3_readItem_69 (by decide) ?_
              have hP : va_P G.1 vwCl (wSc b G.2.1 (rIt s h it).1 ++ wHa a G.2.1 (rIt s h it).2.1) H := by
                rw [rIt_def, rItD]
                (first | rw [if_pos c_1] | rw [if_neg (by rw [c_1]; decide)] | rw [if_neg c_1] | skip)
                (first | rw [if_pos k_2] | rw [if_neg (by rw [k_2]; decide)] | rw [if_neg k_2] | skip)
                (first | rw [if_pos k_3] | rw [if_neg (by rw [k_3]; decide)] | rw [if_neg k_3] | skip)
                (first | rw [if_pos k_6] | rw [if_neg (by rw [k_6]; decide)] | rw [if_neg k_6] | skip)
                (first | rw [if_pos c_7] | rw [if_neg (by rw [c_7]; decide)] | rw [if_neg c_7] | skip)
                (first | rw [if_pos c_8] | rw [if_neg (by rw [c_8]; decide)] | rw [if_neg c_8] | skip)
                exact hP
              exact g_wz hx hb hr hlocks hAe hP hS dX3_readItem_73 (by rw [rIt_def, rItD] <;> (first | done | rw [if_pos c_1] | rw [if_neg c_1] | skip) <;> (first | done | rw [if_pos k_2] | rw [if_neg k_2] | skip) <;> (first | done | rw [if_pos k_3] | rw [if_neg k_3] | skip) <;> (first | done | rw [if_pos k_6] | rw [if_neg k_6] | skip) <;> (first | done | rw [if_pos c_7] | rw [if_neg c_7] | skip) <;> (first | done | rw [if_pos c_8] | rw [if_neg c_8] | skip) <;> (first | done | (try simp only [c_1, k_2, k_3, k_6, c_7, c_8]) <;> rfl))
        · skip
          by_cases k_9 : s.val = 115
          · refine lv_lookup (tgt := 101) (off := 87) hx hb dX3_readItem_14 (by decide) (by rw [k_9] <;> rfl) (by decide) ?_
            refine lv_aload_n hx hb dX3_readItem_101 rfl (lv_at hl 1 rfl) ?_
            refine va_get (D := G.1) (ci := 0) (v := .ref (a 1)) (C := RX0) (T := TX0) (N := 6) hx hb hts i_X3_readItem_X0 hown hK.1 hP 2 rfl rfl 3 (by decide) f57 (fun _ h9 => h9) rfl dX3_readItem_102 ?_
            refine va_get (D := G.1) (ci := 2) (v := .int h.mo.sayings) (C := RX2) (T := TX2) (N := 10) hx hb hts i_X3_readItem_X2 hown hK.1 hP 3 rfl rfl 1 (by decide) f61 (fun _ h9 => h9) rfl dX3_readItem_105 ?_
            refine lv_bipush (v := 8) hx hb dX3_readItem_108 (by decide) ?_
            refine lv_icmp_ge (tgt := 125) hx hb dX3_readItem_110 (by decide) (fun c_10 => ?_) (fun c_10 => ?_)
            · skip
              have c_10 := gl_le c_10
              refine lv_iconst (v := 0) hx hb dX3_readItem_125 (by decide) ?_
              have hP : va_P G.1 vwCl (wSc b G.2.1 (rIt s h it).1 ++ wHa a G.2.1 (rIt s h it).2.1) sz.heap := by
                rw [rIt_def, rItD]
                (first | rw [if_pos c_1] | rw [if_neg (by rw [c_1]; decide)] | rw [if_neg c_1] | skip)
                (first | rw [if_pos k_2] | rw [if_neg (by rw [k_2]; decide)] | rw [if_neg k_2] | skip)
                (first | rw [if_pos k_3] | rw [if_neg (by rw [k_3]; decide)] | rw [if_neg k_3] | skip)
                (first | rw [if_pos k_6] | rw [if_neg (by rw [k_6]; decide)] | rw [if_neg k_6] | skip)
                (first | rw [if_pos k_9] | rw [if_neg (by rw [k_9]; decide)] | rw [if_neg k_9] | skip)
                (first | rw [if_pos c_10] | rw [if_neg (by rw [c_10]; decide)] | rw [if_neg c_10] | skip)
                exact hP
              exact g_wz hx hb hr hlocks hAe hP hS dX3_readItem_126 (by rw [rIt_def, rItD] <;> (first | done | rw [if_pos c_1] | rw [if_neg c_1] | skip) <;> (first | done | rw [if_pos k_2] | rw [if_neg k_2] | skip) <;> (first | done | rw [if_pos k_3] | rw [if_neg k_3] | skip) <;> (first | done | rw [if_pos k_6] | rw [if_neg k_6] | skip) <;> (first | done | rw [if_pos k_9] | rw [if_neg k_9] | skip) <;> (first | done | rw [if_pos c_10] | rw [if_neg c_10] | skip) <;> (first | done | (try simp only [c_1, k_2, k_3, k_6, k_9, c_10]) <;> rfl))
            · skip
              have c_10 := gl_nle c_10
              refine lv_aload_n hx hb dX3_readItem_113 rfl (lv_at hl 0 rfl) ?_
              refine lv_aload_n hx hb dX3_readItem_114 rfl (lv_at hl 1 rfl) ?_
              refine g_wrV (As := [.ref (a 0)]) (rest := []) (nL := 3) hx hb hml hown hts (c_X3_readSaying lz G b a s h hs hh) gX3_readItem_X3_readSaying rfl h_X3_readSaying ⟨Nat.le_of_ble_eq_true rfl, Nat.le_of_ble_eq_true rfl⟩ hK hP hD hS [0, 1, 2, 3, 4, 5, 6, 7, 8, 9, 10, 11] rfl rfl rfl (ws1 := wSc b G.2.1 ((rSa s h).1) ++ wHa a G.2.1 ((rSa s h).2.1)) rfl [b 0, b 1, a 0, a 1, a 2, a 3, a 4, a 5, a 6, a 7, a 8, a 9] rfl rfl (ci := 3) rfl rfl rfl rfl hl.1 rfl (Nat.le_of_ble_eq_true rfl) ⟨Nat.le_refl _, Nat.le_refl _⟩ dX3_readItem_115 (fun H locs hP hD hS => ?_)
              refine lv_if_eq (tgt := 125) hx hb dX3_readItem_118 (by decide) (fun c_11 => ?_) (fun c_11 => ?_)
              · skip
                have c_11 := bI_0 c_11
                refine lv_iconst (v := 0) hx hb dX3_readItem_125 (by decide) ?_
                have hP : va_P G.1 vwCl (wSc b G.2.1 (rIt s h it).1 ++ wHa a G.2.1 (rIt s h it).2.1) H := by
                  rw [rIt_def, rItD]
                  (first | rw [if_pos c_1] | rw [if_neg (by rw [c_1]; decide)] | rw [if_neg c_1] | skip)
                  (first | rw [if_pos k_2] | rw [if_neg (by rw [k_2]; decide)] | rw [if_neg k_2] | skip)
                  (first | rw [if_pos k_3] | rw [if_neg (by rw [k_3]; decide)] | rw [if_neg k_3] | skip)
                  (first | rw [if_pos k_6] | rw [if_neg (by rw [k_6]; decide)] | rw [if_neg k_6] | skip)
                  (first | rw [if_pos k_9] | rw [if_neg (by rw [k_9]; decide)] | rw [if_neg k_9] | skip)
                  (first | rw [if_pos c_10] | rw [if_neg (by rw [c_10]; decide)] | rw [if_neg c_10] | skip)
                  (first | rw [if_pos c_11] | rw [if_neg (by rw [c_11]; decide)] | rw [if_neg c_11] | skip)
                  exact hP
                exact g_wz hx hb hr hlocks hAe hP hS dX3_readItem_126 (by rw [rIt_def, rItD] <;> (first | done | rw [if_pos c_1] | rw [if_neg c_1] | skip) <;> (first | done | rw [if_pos k_2] | rw [if_neg k_2] | skip) <;> (first | done | rw [if_pos k_3] | rw [if_neg k_3] | skip) <;> (first | done | rw [if_pos k_6] | rw [if_neg k_6] | skip) <;> (first | done | rw [if_pos k_9] | rw [if_neg k_9] | skip) <;> (first | done | rw [if_pos c_10] | rw [if_neg c_10] | skip) <;> (first | done | rw [if_pos c_11] | rw [if_neg c_11] | skip) <;> (first | done | (try simp only [c_1, k_2, k_3, k_6, k_9, c_10, c_11]) <;> rfl))
              · skip
                have c_11 := bI_1 c_11
                refine lv_iconst (v := 1) hx hb dX3_readItem_121 (by decide) ?_
                refine lv_goto (tgt := 126) hx hb dX3_readItem_122 (by decide) ?_
                have hP : va_P G.1 vwCl (wSc b G.2.1 (rIt s h it).1 ++ wHa a G.2.1 (rIt s h it).2.1) H := by
                  rw [rIt_def, rItD]
                  (first | rw [if_pos c_1] | rw [if_neg (by rw [c_1]; decide)] | rw [if_neg c_1] | skip)
                  (first | rw [if_pos k_2] | rw [if_neg (by rw [k_2]; decide)] | rw [if_neg k_2] | skip)
                  (first | rw [if_pos k_3] | rw [if_neg (by rw [k_3]; decide)] | rw [if_neg k_3] | skip)
                  (first | rw [if_pos k_6] | rw [if_neg (by rw [k_6]; decide)] | rw [if_neg k_6] | skip)
                  (first | rw [if_pos k_9] | rw [if_neg (by rw [k_9]; decide)] | rw [if_neg k_9] | skip)
                  (first | rw [if_pos c_10] | rw [if_neg (by rw [c_10]; decide)] | rw [if_neg c_10] | skip)
                  (first | rw [if_pos c_11] | rw [if_neg (by rw [c_11]; decide)] | rw [if_neg c_11] | skip)
                  exact hP
                exact g_wz hx hb hr hlocks hAe hP hS dX3_readItem_126 (by rw [rIt_def, rItD] <;> (first | done | rw [if_pos c_1] | rw [if_neg c_1] | skip) <;> (first | done | rw [if_pos k_2] | rw [if_neg k_2] | skip) <;> (first | done | rw [if_pos k_3] | rw [if_neg k_3] | skip) <;> (first | done | rw [if_pos k_6] | rw [if_neg k_6] | skip) <;> (first | done | rw [if_pos k_9] | rw [if_neg k_9] | skip) <;> (first | done | rw [if_pos c_10] | rw [if_neg c_10] | skip) <;> (first | done | rw [if_pos c_11] | rw [if_neg c_11] | skip) <;> (first | done | (try simp only [c_1, k_2, k_3, k_6, k_9, c_10, c_11]) <;> rfl))
          · skip
            refine lv_lookup (tgt := 127) (off := 113) hx hb dX3_readItem_14 (by decide) (by rw [lv_osw k_2 (a := 104) (by decide), lv_osw k_3 (a := 108) (by decide), lv_osw k_6 (a := 110) (by decide), lv_osw k_9 (a := 115) (by decide)] <;> rfl) (by decide) ?_
            refine lv_iconst (v := 0) hx hb dX3_readItem_127 (by decide) ?_
            have hP : va_P G.1 vwCl (wSc b G.2.1 (rIt s h it).1 ++ wHa a G.2.1 (rIt s h it).2.1) sz.heap := by
              rw [rIt_def, rItD]
              (first | rw [if_pos c_1] | rw [if_neg (by rw [c_1]; decide)] | rw [if_neg c_1] | skip)
              (first | rw [if_pos k_2] | rw [if_neg (by rw [k_2]; decide)] | rw [if_neg k_2] | skip)
              (first | rw [if_pos k_3] | rw [if_neg (by rw [k_3]; decide)] | rw [if_neg k_3] | skip)
              (first | rw [if_pos k_6] | rw [if_neg (by rw [k_6]; decide)] | rw [if_neg k_6] | skip)
              (first | rw [if_pos k_9] | rw [if_neg (by rw [k_9]; decide)] | rw [if_neg k_9] | skip)
              exact hP
            exact g_wz hx hb hr hlocks hAe hP hS dX3_readItem_128 (by rw [rIt_def, rItD] <;> (first | done | rw [if_pos c_1] | rw [if_neg c_1] | skip) <;> (first | done | rw [if_pos k_2] | rw [if_neg k_2] | skip) <;> (first | done | rw [if_pos k_3] | rw [if_neg k_3] | skip) <;> (first | done | rw [if_pos k_6] | rw [if_neg k_6] | skip) <;> (first | done | rw [if_pos k_9] | rw [if_neg k_9] | skip) <;> (first | done | (try simp only [c_1, k_2, k_3, k_6, k_9]) <;> rfl))
  · skip
    refine lv_iconst (v := 0) hx hb dX3_readItem_8 (by decide) ?_
    have hP : va_P G.1 vwCl (wSc b G.2.1 (rIt s h it).1 ++ wHa a G.2.1 (rIt s h it).2.1) sz.heap := by
      rw [rIt_def, rItD]
      (first | rw [if_pos c_1] | rw [if_neg (by rw [c_1]; decide)] | rw [if_neg c_1] | skip)
      exact hP
    exact g_wz hx hb hr hlocks hAe hP hS dX3_readItem_9 (by rw [rIt_def, rItD] <;> (first | done | rw [if_pos c_1] | rw [if_neg c_1] | skip) <;> (first | done | (try simp only [c_1]) <;> rfl))

theorem i_X3_readInto_X3 : ∀ w ∈ wsX30, w ∈ wsX3_readInto := by decide +kernel
theorem h_X3_readInto : yX3_readInto.cls = RX3 ∧ yX3_readInto.cls ≠ "java/lang/invoke/MethodHandle" ∧ yX3_readInto.cls ≠ "java/lang/invoke/VarHandle" ∧ (parseMethodDescriptor yX3_readInto.desc).map (fun d => d.parameters.length) = some 1 := by decide +kernel
set_option maxHeartbeats 4000000 in
set_option maxRecDepth 100000 in
theorem c_X3_readInto (lz : Launch) (G : gG) (b a : Nat → Nat) (s : ScS) (h : HaS) (Z : Nat) (hz : s.size = nI Z) (hZ : Z ≤ 120) : gWr lz yX3_readInto wsX3_readInto 5 G [.ref (b 0), .ref (a 0)] (wSc b G.2.1 s ++ wHa a G.2.1 h) (wSc b G.2.1 (rInto s h).1 ++ wHa a G.2.1 (rInto s h).2.1) (some (.int (rInto s h).2.2)) := by
  refine g_wr (by decide) rfl (Nat.le_of_ble_eq_true rfl) ?_
  intro pz ez sz mz bz tz cz hx hb hr hml hown hts hlocks hK A hAe hP hD hS ls hl
  have hl : lv_has ls 3 [(0, .ref (b 0)), (1, .ref (a 0))] := hl
  have f24 := hts (.fieldLink RX3 24 "WhisperRing$Script" "lossTold" "Z") (by decide +kernel)
  have f28 := hts (.fieldLink RX3 28 "WhisperRing$Script" "next" "I") (by decide +kernel)
  have f34 := hts (.fieldLink RX3 34 "WhisperRing$Script" "token" "I") (by decide +kernel)
  have f41 := hts (.fieldLink RX3 41 "WhisperRing$Script" "tokenAt" "I") (by decide +kernel)
  have ok0 : scOK (s.size, s.bytes, 0, s.tokAt, s.tok, s.val, 0) := ⟨Z, 0, hZ, Nat.zero_le _, hz, rfl⟩
  have ok1 : scOK (scStep (s.size, s.bytes, 0, s.tokAt, s.tok, s.val, 0)) := scOK_step ok0
  refine lv_aload_n hx hb dX3_readInto_0 rfl (lv_at hl 1 rfl) ?_
  refine g_wrV (As := []) (rest := []) (nL := 3) hx hb hml hown hts (c_X0_empty lz G a h) gX3_readInto_X0_empty rfl h_X0_empty ⟨Nat.le_of_ble_eq_true rfl, Nat.le_of_ble_eq_true rfl⟩ hK hP hD hS [2, 3, 4, 5, 6, 7, 8, 9, 10, 11] rfl rfl rfl (ws1 := wSc b G.2.1 s ++ wHa a G.2.1 (hEmp h)) rfl [b 0, b 1, a 0, a 1, a 2, a 3, a 4, a 5, a 6, a 7, a 8, a 9] rfl rfl (ci := 0) rfl rfl rfl rfl hl.1 rfl (Nat.le_of_ble_eq_true rfl) ⟨Nat.le_refl _, Nat.le_refl _⟩ dX3_readInto_1 (fun H locs hP hD hS => ?_)
  refine lv_aload_n hx hb dX3_readInto_4 rfl (lv_at hl 0 rfl) ?_
  refine lv_iconst (v := 0) hx hb dX3_readInto_5 (by decide) ?_
  refine va_put (D := G.1) (ci := 3) (v := .int 0) (ty := .boolean) (C := RX3) (T := TX3) (N := 7) hx hb hts i_X3_readInto_X3 tyX3 tyX3_ok nmX3 hown hK.1 hP hD hS 0 rfl rfl 6 (by decide) f24 (fun _ h9 => h9) rfl (by decide +kernel) rfl rfl (Nat.le_of_ble_eq_true rfl) dX3_readInto_6 (fun H locs hP hD hS => ?_)
  have hP : va_P G.1 vwCl (wSc b G.2.1 (s.size, s.bytes, s.next, s.tokAt, s.tok, s.val, 0) ++ wHa a G.2.1 (hEmp h)) H := hP
  have hD : va_D A (wSc b G.2.1 (s.size, s.bytes, s.next, s.tokAt, s.tok, s.val, 0) ++ wHa a G.2.1 (hEmp h)) := hD
  refine lv_aload_n hx hb dX3_readInto_9 rfl (lv_at hl 0 rfl) ?_
  refine lv_iconst (v := 0) hx hb dX3_readInto_10 (by decide) ?_
  refine va_put (D := G.1) (ci := 3) (v := .int 0) (ty := .int) (C := RX3) (T := TX3) (N := 7) hx hb hts i_X3_readInto_X3 tyX3 tyX3_ok nmX3 hown hK.1 hP hD hS 0 rfl rfl 2 (by decide) f28 (fun _ h9 => h9) rfl (by decide +kernel) rfl rfl (Nat.le_of_ble_eq_true rfl) dX3_readInto_11 (fun H locs hP hD hS => ?_)
  have hP : va_P G.1 vwCl (wSc b G.2.1 (s.size, s.bytes, 0, s.tokAt, s.tok, s.val, 0) ++ wHa a G.2.1 (hEmp h)) H := hP
  have hD : va_D A (wSc b G.2.1 (s.size, s.bytes, 0, s.tokAt, s.tok, s.val, 0) ++ wHa a G.2.1 (hEmp h)) := hD
  refine lv_iconst (v := 0) hx hb dX3_readInto_14 (by decide) ?_
  refine lv_istore_n (lv' := [(2, .int 0), (0, .ref (b 0)), (1, .ref (a 0))]) hx hb dX3_readInto_15 rfl hl (by decide) rfl (fun ls hl => ?_)
  refine lv_aload_n hx hb dX3_readInto_16 rfl (lv_at hl 1 rfl) ?_
  refine g_wrV (As := []) (rest := []) (nL := 3) hx hb hml hown hts (c_X3_step lz G b (s.size, s.bytes, 0, s.tokAt, s.tok, s.val, 0) ok0) gX3_readInto_X3_step rfl h_X3_step ⟨Nat.le_of_ble_eq_true rfl, Nat.le_of_ble_eq_true rfl⟩ hK hP hD hS [0, 1] rfl rfl rfl (ws1 := wSc b G.2.1 (scStep (s.size, s.bytes, 0, s.tokAt, s.tok, s.val, 0)) ++ wHa a G.2.1 (hEmp h)) rfl [b 0, b 1, a 0, a 1, a 2, a 3, a 4, a 5, a 6, a 7, a 8, a 9] rfl rfl (ci := 3) rfl rfl rfl rfl hl.1 rfl (Nat.le_of_ble_eq_true rfl) ⟨Nat.le_refl _, Nat.le_refl _⟩ dX3_readInto_17 (fun H locs hP hD hS => ?_)
  have lp_20 : ∀ (fu_20 : Nat) (it : Nat) (t : ScS) (g : HaS), (it ≤ 120) → (scOK t) → (haOK g) → (rInto s h = rLp (120 - it) it t g) → 120 - it < fu_20 → ∀ (H : Heap) (locs : List Loc), va_P G.1 vwCl (wSc b G.2.1 t ++ wHa a G.2.1 g) H → va_D A (wSc b G.2.1 t ++ wHa a G.2.1 g) → va_S A sz.heap H locs → ∀ ls : Array Slot, lv_has ls 3 [(0, .ref (b 0)), (1, .ref (a 0)), (2, .int (nI it))] → W pz lz ez (gRm 5) sz mz ([.ref (b 0), .ref (a 0)] : List Value).toArray bz tz cz H locs 0 0 (MQ bz (gQ G (wSc b G.2.1 s ++ wHa a G.2.1 h) (wSc b G.2.1 (rInto s h).1 ++ wHa a G.2.1 (rInto s h).2.1) (some (.int (rInto s h).2.2))) ([.ref (b 0), .ref (a 0)] : List Value).toArray sz 0 0 (gAd (wSc b G.2.1 s ++ wHa a G.2.1 h))) (F0 mz 20 ls []) := by
    intro fu_20
    induction fu_20 with
    | zero =>
      intro it t g hi ok hh he hf_20
      exact absurd hf_20 (Nat.not_lt_zero _)
    | succ fu_20 ih_20 =>
      intro it t g hi ok hh he hf_20 H locs hP hD hS ls hl
      refine lv_iload_n hx hb dX3_readInto_20 rfl (lv_at hl 2 rfl) ?_
      refine lv_bipush (v := 120) hx hb dX3_readInto_21 (by decide) ?_
      refine lv_icmp_ge (tgt := 56) hx hb dX3_readInto_23 (by decide) (fun c_1 => ?_) (fun c_1 => ?_)
      · skip
        have c_1 := gl_le c_1
        have hx2 : 120 ≤ it := gl_nl rfl (y := 120) (k := 120) rfl (by omega) (by decide) c_1
        refine lv_iload_n hx hb dX3_readInto_56 rfl (lv_at hl 2 rfl) ?_
        have hres := he.trans (rLp_e (Or.inl hx2))
        have hP : va_P G.1 vwCl (wSc b G.2.1 (rInto s h).1 ++ wHa a G.2.1 (rInto s h).2.1) H := by
          rw [hres]
          exact hP
        exact g_wi hx hb hr hlocks hAe hP hS dX3_readInto_57 (by rw [hres])
      · skip
        have c_1 := gl_nle c_1
        have hlt : it < 120 := gl_ll rfl (y := 120) (k := 120) rfl (by omega) (by decide) c_1
        refine lv_aload_n hx hb dX3_readInto_26 rfl (lv_at hl 0 rfl) ?_
        refine va_get (D := G.1) (ci := 3) (v := .int t.tok) (C := RX3) (T := TX3) (N := 7) hx hb hts i_X3_readInto_X3 hown hK.1 hP 0 rfl rfl 4 (by decide) f34 (fun _ h9 => h9) rfl dX3_readInto_27 ?_
        refine lv_if_eq (tgt := 56) hx hb dX3_readInto_30 (by decide) (fun c_2 => ?_) (fun c_2 => ?_)
        · skip
          refine lv_iload_n hx hb dX3_readInto_56 rfl (lv_at hl 2 rfl) ?_
          have hres := he.trans (rLp_e (Or.inr c_2))
          have hP : va_P G.1 vwCl (wSc b G.2.1 (rInto s h).1 ++ wHa a G.2.1 (rInto s h).2.1) H := by
            rw [hres]
            exact hP
          exact g_wi hx hb hr hlocks hAe hP hS dX3_readInto_57 (by rw [hres])
        · skip
          refine lv_aload_n hx hb dX3_readInto_33 rfl (lv_at hl 0 rfl) ?_
          refine lv_aload_n hx hb dX3_readInto_34 rfl (lv_at hl 1 rfl) ?_
          refine lv_iload_n hx hb dX3_readInto_35 rfl (lv_at hl 2 rfl) ?_
          refine g_wrV (As := [.ref (a 0), .int (nI it)]) (rest := []) (nL := 3) hx hb hml hown hts (c_X3_readItem lz G b a t g (nI it) ok hh) gX3_readInto_X3_readItem rfl h_X3_readItem ⟨Nat.le_of_ble_eq_true rfl, Nat.le_of_ble_eq_true rfl⟩ hK hP hD hS [0, 1, 2, 3, 4, 5, 6, 7, 8, 9, 10, 11] rfl rfl rfl (ws1 := wSc b G.2.1 ((rIt t g (nI it)).1) ++ wHa a G.2.1 ((rIt t g (nI it)).2.1)) rfl [b 0, b 1, a 0, a 1, a 2, a 3, a 4, a 5, a 6, a 7, a 8, a 9] rfl rfl (ci := 3) rfl rfl rfl rfl hl.1 rfl (Nat.le_of_ble_eq_true rfl) ⟨Nat.le_refl _, Nat.le_refl _⟩ dX3_readInto_36 (fun H locs hP hD hS => ?_)
          refine lv_if_ne (tgt := 50) hx hb dX3_readInto_39 (by decide) (fun c_4 => ?_) (fun c_4 => ?_)
          · skip
            have c_4 := bI_1 c_4
            refine lv_iinc (v := nI (it + 1)) (lv' := [(2, .int (nI (it + 1))), (0, .ref (b 0)), (1, .ref (a 0))]) hx hb dX3_readInto_50 hl (k := 2) rfl (nI_1 it) (by decide) rfl (fun ls hl => ?_)
            refine lv_goto (tgt := 20) hx hb dX3_readInto_53 (by decide) ?_
            exact ih_20 (it + 1) ((rIt t g (nI it)).1) ((rIt t g (nI it)).2.1) hlt (scOK_it ok hh) (haOK_it ok hh) (he.trans (rLp_y hlt c_2 c_4)) (by omega) _ _ hP hD hS ls (lv_sub hl [1, 2, 0] rfl)
          · skip
            have c_4 := bI_0 c_4
            refine lv_bipush (v := (-10)) hx hb dX3_readInto_42 (by decide) ?_
            refine lv_aload_n hx hb dX3_readInto_44 rfl (lv_at hl 0 rfl) ?_
            refine va_get (D := G.1) (ci := 3) (v := .int (((rIt t g (nI it)).1).tokAt)) (C := RX3) (T := TX3) (N := 7) hx hb hts i_X3_readInto_X3 hown hK.1 hP 0 rfl rfl 3 (by decide) f41 (fun _ h9 => h9) rfl dX3_readInto_45 ?_
            refine lv_isub hx hb dX3_readInto_48 ?_
            have hres := he.trans (rLp_n hlt c_2 c_4)
            have hP : va_P G.1 vwCl (wSc b G.2.1 (rInto s h).1 ++ wHa a G.2.1 (rInto s h).2.1) H := by
              rw [hres]
              exact hP
            exact g_wi hx hb hr hlocks hAe hP hS dX3_readInto_49 (by rw [hres])
  exact lp_20 ((120 - 0) + 1) 0 (scStep (s.size, s.bytes, 0, s.tokAt, s.tok, s.val, 0)) (hEmp h) (Nat.zero_le _) ok1 (haOK_emp h) (rInto_def s h) (Nat.lt_succ_self _) _ _ hP hD hS ls (lv_sub hl [1, 2, 0] rfl)
