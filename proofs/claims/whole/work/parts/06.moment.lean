theorem gl_ll {x y : Int32} {n k : Nat} (hn : x = nI n) (hy : y = nI k) (h1 : n < 2 ^ 31) (h2 : k < 2 ^ 31) (c : x < y) : n < k := by rw [hn, hy] at c; exact (nI_ltI h1 h2).mp c
theorem gl_gg {x y : Int32} {n k : Nat} (hn : x = nI n) (hy : y = nI k) (h1 : n < 2 ^ 31) (h2 : k < 2 ^ 31) (c : y < x) : k + 1 ≤ n := by rw [hn, hy] at c; exact (nI_ltI h2 h1).mp c
theorem gl_nl {x y : Int32} {n k : Nat} (hn : x = nI n) (hy : y = nI k) (h1 : n < 2 ^ 31) (h2 : k < 2 ^ 31) (c : ¬ x < y) : k ≤ n := by
  rw [hn, hy] at c
  exact Nat.le_of_not_lt (fun q => c ((nI_ltI h1 h2).mpr q))
def allOf (q : Nat → Bool) : Nat → Bool
  | 0 => true
  | i + 1 => allOf q i && q i
theorem aO_y {q : Nat → Bool} {i : Nat} (h : allOf q i = true) (h2 : q i = true) : allOf q (i + 1) = true := by rw [allOf, h, h2]; rfl
theorem aO_n {q : Nat → Bool} {i : Nat} : ∀ {n : Nat}, i < n → q i = false → allOf q n = false
  | 0, h, _ => absurd h (Nat.not_lt_zero _)
  | n + 1, h, h2 => by
    rw [allOf]
    by_cases e : i = n
    · rw [← e, h2, Bool.and_false]
    · rw [aO_n (by omega) h2, Bool.false_and]
def moEmp (m : MoS) : MoS := (0, 0, 0, 0, m.frm, m.speed, m.way, m.loud, m.said, m.deeds)
def moCpy (m o : MoS) : MoS := (o.tick, o.sayings, o.hushed, o.noted, va_cpy o.frm m.frm 0 0 8, va_cpy o.speed m.speed 0 0 8, va_cpy o.way m.way 0 0 8, va_cpy o.loud m.loud 0 0 8, va_cpy o.said m.said 0 0 8, va_cpy o.deeds m.deeds 0 0 10)
def moAdd (m : MoS) (n : Nat) (p sp wa lo : Int32) : MoS := if m.sayings < 8 then (m.tick, nI (n + 1), m.hushed, m.noted, upd m.frm n p, upd m.speed n sp, upd m.way n wa, upd m.loud n lo, upd m.said n m.tick, m.deeds) else m
def moNote (m : MoS) (k : Nat) (d : Int32) : MoS := if m.noted < 10 then (m.tick, m.sayings, m.hushed, nI (k + 1), m.frm, m.speed, m.way, m.loud, m.said, upd m.deeds k d) else (m.tick, m.sayings, m.hushed, nI 10, m.frm, m.speed, m.way, m.loud, m.said, upd (va_cpy m.deeds m.deeds 1 0 9) 9 d)
def moGo (m : MoS) (k : Nat) (x : Int32) : MoS := moNote (m.tick + x, m.sayings, m.hushed, m.noted, m.frm, m.speed, m.way, m.loud, m.said, m.deeds) k x
def moHush (m : MoS) (k : Nat) (s : Int32) : MoS := moNote (m.tick, m.sayings, m.hushed ||| ((1 : Int32) <<< (s &&& 31)), m.noted, m.frm, m.speed, m.way, m.loud, m.said, m.deeds) k ((-1) - s)
def moBack (m : MoS) (k : Nat) : MoS := if 0 < m.noted then (if m.deeds (k - 1) = 0 then (m.tick, m.sayings - 1, m.hushed, nI (k - 1), m.frm, m.speed, m.way, m.loud, m.said, m.deeds) else if 0 < m.deeds (k - 1) then (m.tick - m.deeds (k - 1), m.sayings, m.hushed, nI (k - 1), m.frm, m.speed, m.way, m.loud, m.said, m.deeds) else (m.tick, m.sayings, m.hushed &&& (((1 : Int32) <<< (((-1) - m.deeds (k - 1)) &&& 31)) ^^^ (-1)), nI (k - 1), m.frm, m.speed, m.way, m.loud, m.said, m.deeds)) else m
def hEmp (h : HaS) : HaS := (12, 1, 0, moEmp h.mo, h.ats, h.str)
abbrev HeS : Type := Int32 × (Nat → Int32) × (Nat → Int32) × (Nat → Int32)
abbrev HeS.size (u : HeS) : Int32 := u.1
abbrev HeS.ats (u : HeS) : Nat → Int32 := u.2.1
abbrev HeS.beh (u : HeS) : Nat → Int32 := u.2.2.1
abbrev HeS.the (u : HeS) : Nat → Int32 := u.2.2.2
def wHe (a : Nat → Nat) (cI : ClassId) (u : HeS) : va_W := [(a 0, .inr (1, [.int u.size, .ref (a 1), .ref (a 2), .ref (a 3)])), (a 1, .inl (cI, 6, .inl u.ats)), (a 2, .inl (cI, 6, .inl u.beh)), (a 3, .inl (cI, 6, .inl u.the))]
def heAdd (u : HeS) (k : Nat) (p n th : Int32) : HeS := if u.size < 6 then (nI (k + 1), upd u.ats k p, upd u.beh k n, upd u.the k th) else u
def guP (g : Int32) : Int32 := g / 12
def guS (g : Int32) : Int32 := (g - g / 12 * 12) / 2 + 1
def guW (g : Int32) : Int32 := g - g / 2 * 2
def guAt (h : HaS) (g n : Int32) : Int32 := hReach h (guP g) (guW g) (guS g * n)
def guFit (h : HaS) (u : HeS) (k : Nat) (g : Int32) : Bool := allOf (fun i => decide (guAt h g (u.beh i) = u.ats i) == decide (u.the i = 1)) k
theorem i_X2_empty_X2 : ∀ w ∈ wsX20, w ∈ wsX2_empty := by decide +kernel
theorem h_X2_empty : yX2_empty.cls = RX2 ∧ yX2_empty.cls ≠ "java/lang/invoke/MethodHandle" ∧ yX2_empty.cls ≠ "java/lang/invoke/VarHandle" ∧ (parseMethodDescriptor yX2_empty.desc).map (fun d => d.parameters.length) = some 0 := by decide +kernel
set_option maxHeartbeats 4000000 in
set_option maxRecDepth 100000 in
theorem c_X2_empty (lz : Launch) (G : gG) (a : Nat → Nat) (m : MoS) : gWr lz yX2_empty wsX2_empty 0 G [.ref (a 0)] (wMo a G.2.1 m) (wMo a G.2.1 (moEmp m)) none := by
  refine g_wr (by decide) rfl (Nat.le_of_ble_eq_true rfl) ?_
  intro pz ez sz mz bz tz cz hx hb hr hml hown hts hlocks hK A hAe hP hD hS ls hl
  have hl : lv_has ls 1 [(0, .ref (a 0))] := hl
  have f30 := hts (.fieldLink RX2 30 "WhisperRing$Moment" "tick" "I") (by decide +kernel)
  have f34 := hts (.fieldLink RX2 34 "WhisperRing$Moment" "sayings" "I") (by decide +kernel)
  have f37 := hts (.fieldLink RX2 37 "WhisperRing$Moment" "hushed" "I") (by decide +kernel)
  have f40 := hts (.fieldLink RX2 40 "WhisperRing$Moment" "noted" "I") (by decide +kernel)
  refine lv_aload_n hx hb dX2_empty_0 rfl (lv_at hl 0 rfl) ?_
  refine lv_iconst (v := 0) hx hb dX2_empty_1 (by decide) ?_
  refine va_put (D := G.1) (ci := 2) (v := .int 0) (ty := .int) (C := RX2) (T := TX2) (N := 10) hx hb hts i_X2_empty_X2 tyX2 tyX2_ok nmX2 hown hK.1 hP hD hS 0 rfl rfl 0 (by decide) f30 (fun _ h9 => h9) rfl (by decide +kernel) rfl rfl (Nat.le_of_ble_eq_true rfl) dX2_empty_2 (fun H locs hP hD hS => ?_)
  have hP : va_P G.1 vwCl (wMo a G.2.1 (0, m.sayings, m.hushed, m.noted, m.frm, m.speed, m.way, m.loud, m.said, m.deeds)) H := hP
  have hD : va_D A (wMo a G.2.1 (0, m.sayings, m.hushed, m.noted, m.frm, m.speed, m.way, m.loud, m.said, m.deeds)) := hD
  refine lv_aload_n hx hb dX2_empty_5 rfl (lv_at hl 0 rfl) ?_
  refine lv_iconst (v := 0) hx hb dX2_empty_6 (by decide) ?_
  refine va_put (D := G.1) (ci := 2) (v := .int 0) (ty := .int) (C := RX2) (T := TX2) (N := 10) hx hb hts i_X2_empty_X2 tyX2 tyX2_ok nmX2 hown hK.1 hP hD hS 0 rfl rfl 1 (by decide) f34 (fun _ h9 => h9) rfl (by decide +kernel) rfl rfl (Nat.le_of_ble_eq_true rfl) dX2_empty_7 (fun H locs hP hD hS => ?_)
  have hP : va_P G.1 vwCl (wMo a G.2.1 (0, 0, m.hushed, m.noted, m.frm, m.speed, m.way, m.loud, m.said, m.deeds)) H := hP
  have hD : va_D A (wMo a G.2.1 (0, 0, m.hushed, m.noted, m.frm, m.speed, m.way, m.loud, m.said, m.deeds)) := hD
  refine lv_aload_n hx hb dX2_empty_10 rfl (lv_at hl 0 rfl) ?_
  refine lv_iconst (v := 0) hx hb dX2_empty_11 (by decide) ?_
  refine va_put (D := G.1) (ci := 2) (v := .int 0) (ty := .int) (C := RX2) (T := TX2) (N := 10) hx hb hts i_X2_empty_X2 tyX2 tyX2_ok nmX2 hown hK.1 hP hD hS 0 rfl rfl 2 (by decide) f37 (fun _ h9 => h9) rfl (by decide +kernel) rfl rfl (Nat.le_of_ble_eq_true rfl) dX2_empty_12 (fun H locs hP hD hS => ?_)
  have hP : va_P G.1 vwCl (wMo a G.2.1 (0, 0, 0, m.noted, m.frm, m.speed, m.way, m.loud, m.said, m.deeds)) H := hP
  have hD : va_D A (wMo a G.2.1 (0, 0, 0, m.noted, m.frm, m.speed, m.way, m.loud, m.said, m.deeds)) := hD
  refine lv_aload_n hx hb dX2_empty_15 rfl (lv_at hl 0 rfl) ?_
  refine lv_iconst (v := 0) hx hb dX2_empty_16 (by decide) ?_
  refine va_put (D := G.1) (ci := 2) (v := .int 0) (ty := .int) (C := RX2) (T := TX2) (N := 10) hx hb hts i_X2_empty_X2 tyX2 tyX2_ok nmX2 hown hK.1 hP hD hS 0 rfl rfl 3 (by decide) f40 (fun _ h9 => h9) rfl (by decide +kernel) rfl rfl (Nat.le_of_ble_eq_true rfl) dX2_empty_17 (fun H locs hP hD hS => ?_)
  have hP : va_P G.1 vwCl (wMo a G.2.1 (0, 0, 0, 0, m.frm, m.speed, m.way, m.loud, m.said, m.deeds)) H := hP
  have hD : va_D A (wMo a G.2.1 (0, 0, 0, 0, m.frm, m.speed, m.way, m.loud, m.said, m.deeds)) := hD
  exact g_wv hx hb hr hlocks hAe hP hS dX2_empty_20

theorem i_X2_become_X2 : ∀ w ∈ wsX20, w ∈ wsX2_become := by decide +kernel
theorem h_X2_become : yX2_become.cls = RX2 ∧ yX2_become.cls ≠ "java/lang/invoke/MethodHandle" ∧ yX2_become.cls ≠ "java/lang/invoke/VarHandle" ∧ (parseMethodDescriptor yX2_become.desc).map (fun d => d.parameters.length) = some 1 := by decide +kernel
set_option maxHeartbeats 4000000 in
set_option maxRecDepth 100000 in
theorem c_X2_become (lz : Launch) (G : gG) (a b : Nat → Nat) (m o : MoS) : gWr lz yX2_become wsX2_become 1 G [.ref (a 0), .ref (b 0)] (wMo a G.2.1 m ++ wMo b G.2.1 o) (wMo a G.2.1 (moCpy m o) ++ wMo b G.2.1 o) none := by
  refine g_wr (by decide) rfl (Nat.le_of_ble_eq_true rfl) ?_
  intro pz ez sz mz bz tz cz hx hb hr hml hown hts hlocks hK A hAe hP hD hS ls hl
  have hl : lv_has ls 2 [(0, .ref (a 0)), (1, .ref (b 0))] := hl
  have f15 := hts (.fieldLink RX2 15 "WhisperRing$Moment" "speed" "[I") (by decide +kernel)
  have f18 := hts (.fieldLink RX2 18 "WhisperRing$Moment" "way" "[I") (by decide +kernel)
  have f21 := hts (.fieldLink RX2 21 "WhisperRing$Moment" "loud" "[I") (by decide +kernel)
  have f24 := hts (.fieldLink RX2 24 "WhisperRing$Moment" "saidAt" "[I") (by decide +kernel)
  have f27 := hts (.fieldLink RX2 27 "WhisperRing$Moment" "deeds" "[I") (by decide +kernel)
  have f30 := hts (.fieldLink RX2 30 "WhisperRing$Moment" "tick" "I") (by decide +kernel)
  have f34 := hts (.fieldLink RX2 34 "WhisperRing$Moment" "sayings" "I") (by decide +kernel)
  have f37 := hts (.fieldLink RX2 37 "WhisperRing$Moment" "hushed" "I") (by decide +kernel)
  have f40 := hts (.fieldLink RX2 40 "WhisperRing$Moment" "noted" "I") (by decide +kernel)
  have f43 := hts (.methodLink RX2 43 arraycopyName) (by decide +kernel)
  have f9 := hts (.fieldLink RX2 9 "WhisperRing$Moment" "from" "[I") (by decide +kernel)
  have faci := hts (.initialized "java/lang/System") (by decide +kernel)
  have facn := hts (.native arraycopyName) (by decide +kernel)
  have facs := hts (.static arraycopyName) (by decide +kernel)
  refine lv_aload_n hx hb dX2_become_0 rfl (lv_at hl 0 rfl) ?_
  refine lv_aload_n hx hb dX2_become_1 rfl (lv_at hl 1 rfl) ?_
  refine va_get (D := G.1) (ci := 2) (v := .int o.tick) (C := RX2) (T := TX2) (N := 10) hx hb hts i_X2_become_X2 hown hK.1 hP 7 rfl rfl 0 (by decide) f30 (fun _ h9 => h9) rfl dX2_become_2 ?_
  refine va_put (D := G.1) (ci := 2) (v := .int o.tick) (ty := .int) (C := RX2) (T := TX2) (N := 10) hx hb hts i_X2_become_X2 tyX2 tyX2_ok nmX2 hown hK.1 hP hD hS 0 rfl rfl 0 (by decide) f30 (fun _ h9 => h9) rfl (by decide +kernel) rfl rfl (Nat.le_of_ble_eq_true rfl) dX2_become_5 (fun H locs hP hD hS => ?_)
  have hP : va_P G.1 vwCl (wMo a G.2.1 (o.tick, m.sayings, m.hushed, m.noted, m.frm, m.speed, m.way, m.loud, m.said, m.deeds) ++ wMo b G.2.1 o) H := hP
  have hD : va_D A (wMo a G.2.1 (o.tick, m.sayings, m.hushed, m.noted, m.frm, m.speed, m.way, m.loud, m.said, m.deeds) ++ wMo b G.2.1 o) := hD
  refine lv_aload_n hx hb dX2_become_8 rfl (lv_at hl 0 rfl) ?_
  refine lv_aload_n hx hb dX2_become_9 rfl (lv_at hl 1 rfl) ?_
  refine va_get (D := G.1) (ci := 2) (v := .int o.sayings) (C := RX2) (T := TX2) (N := 10) hx hb hts i_X2_become_X2 hown hK.1 hP 7 rfl rfl 1 (by decide) f34 (fun _ h9 => h9) rfl dX2_become_10 ?_
  refine va_put (D := G.1) (ci := 2) (v := .int o.sayings) (ty := .int) (C := RX2) (T := TX2) (N := 10) hx hb hts i_X2_become_X2 tyX2 tyX2_ok nmX2 hown hK.1 hP hD hS 0 rfl rfl 1 (by decide) f34 (fun _ h9 => h9) rfl (by decide +kernel) rfl rfl (Nat.le_of_ble_eq_true rfl) dX2_become_13 (fun H locs hP hD hS => ?_)
  have hP : va_P G.1 vwCl (wMo a G.2.1 (o.tick, o.sayings, m.hushed, m.noted, m.frm, m.speed, m.way, m.loud, m.said, m.deeds) ++ wMo b G.2.1 o) H := hP
  have hD : va_D A (wMo a G.2.1 (o.tick, o.sayings, m.hushed, m.noted, m.frm, m.speed, m.way, m.loud, m.said, m.deeds) ++ wMo b G.2.1 o) := hD
  refine lv_aload_n hx hb dX2_become_16 rfl (lv_at hl 0 rfl) ?_
  refine lv_aload_n hx hb dX2_become_17 rfl (lv_at hl 1 rfl) ?_
  refine va_get (D := G.1) (ci := 2) (v := .int o.hushed) (C := RX2) (T := TX2) (N := 10) hx hb hts i_X2_become_X2 hown hK.1 hP 7 rfl rfl 2 (by decide) f37 (fun _ h9 => h9) rfl dX2_become_18 ?_
  refine va_put (D := G.1) (ci := 2) (v := .int o.hushed) (ty := .int) (C := RX2) (T := TX2) (N := 10) hx hb hts i_X2_become_X2 tyX2 tyX2_ok nmX2 hown hK.1 hP hD hS 0 rfl rfl 2 (by decide) f37 (fun _ h9 => h9) rfl (by decide +kernel) rfl rfl (Nat.le_of_ble_eq_true rfl) dX2_become_21 (fun H locs hP hD hS => ?_)
  have hP : va_P G.1 vwCl (wMo a G.2.1 (o.tick, o.sayings, o.hushed, m.noted, m.frm, m.speed, m.way, m.loud, m.said, m.deeds) ++ wMo b G.2.1 o) H := hP
  have hD : va_D A (wMo a G.2.1 (o.tick, o.sayings, o.hushed, m.noted, m.frm, m.speed, m.way, m.loud, m.said, m.deeds) ++ wMo b G.2.1 o) := hD
  refine lv_aload_n hx hb dX2_become_24 rfl (lv_at hl 0 rfl) ?_
  refine lv_aload_n hx hb dX2_become_25 rfl (lv_at hl 1 rfl) ?_
  refine va_get (D := G.1) (ci := 2) (v := .int o.noted) (C := RX2) (T := TX2) (N := 10) hx hb hts i_X2_become_X2 hown hK.1 hP 7 rfl rfl 3 (by decide) f40 (fun _ h9 => h9) rfl dX2_become_26 ?_
  refine va_put (D := G.1) (ci := 2) (v := .int o.noted) (ty := .int) (C := RX2) (T := TX2) (N := 10) hx hb hts i_X2_become_X2 tyX2 tyX2_ok nmX2 hown hK.1 hP hD hS 0 rfl rfl 3 (by decide) f40 (fun _ h9 => h9) rfl (by decide +kernel) rfl rfl (Nat.le_of_ble_eq_true rfl) dX2_become_29 (fun H locs hP hD hS => ?_)
  have hP : va_P G.1 vwCl (wMo a G.2.1 (o.tick, o.sayings, o.hushed, o.noted, m.frm, m.speed, m.way, m.loud, m.said, m.deeds) ++ wMo b G.2.1 o) H := hP
  have hD : va_D A (wMo a G.2.1 (o.tick, o.sayings, o.hushed, o.noted, m.frm, m.speed, m.way, m.loud, m.said, m.deeds) ++ wMo b G.2.1 o) := hD
  refine lv_aload_n hx hb dX2_become_32 rfl (lv_at hl 1 rfl) ?_
  refine va_get (D := G.1) (ci := 2) (v := .ref (b 1)) (C := RX2) (T := TX2) (N := 10) hx hb hts i_X2_become_X2 hown hK.1 hP 7 rfl rfl 4 (by decide) f9 (fun _ h9 => h9) rfl dX2_become_33 ?_
  refine lv_iconst (v := 0) hx hb dX2_become_36 (by decide) ?_
  refine lv_aload_n hx hb dX2_become_37 rfl (lv_at hl 0 rfl) ?_
  refine va_get (D := G.1) (ci := 2) (v := .ref (a 1)) (C := RX2) (T := TX2) (N := 10) hx hb hts i_X2_become_X2 hown hK.1 hP 0 rfl rfl 4 (by decide) f9 (fun _ h9 => h9) rfl dX2_become_38 ?_
  refine lv_iconst (v := 0) hx hb dX2_become_41 (by decide) ?_
  refine lv_bipush (v := 8) hx hb dX2_become_42 (by decide) ?_
  refine va_copyi hx hb (hml.trans hl.1.symm) hown f43 facn facs faci hK.1 hP hD hS 8 1 0 0 rfl rfl rfl rfl rfl (by decide) (by decide) (by decide) (by decide) (by decide) (fun _ _ => rfl) (Nat.le_of_ble_eq_true rfl) (Nat.le_of_ble_eq_true rfl) dX2_become_44 (fun H locs hP hD hS => ?_)
  have hP : va_P G.1 vwCl (wMo a G.2.1 (o.tick, o.sayings, o.hushed, o.noted, va_cpy o.frm m.frm 0 0 8, m.speed, m.way, m.loud, m.said, m.deeds) ++ wMo b G.2.1 o) H := hP
  have hD : va_D A (wMo a G.2.1 (o.tick, o.sayings, o.hushed, o.noted, va_cpy o.frm m.frm 0 0 8, m.speed, m.way, m.loud, m.said, m.deeds) ++ wMo b G.2.1 o) := hD
  refine lv_aload_n hx hb dX2_become_47 rfl (lv_at hl 1 rfl) ?_
  refine va_get (D := G.1) (ci := 2) (v := .ref (b 2)) (C := RX2) (T := TX2) (N := 10) hx hb hts i_X2_become_X2 hown hK.1 hP 7 rfl rfl 5 (by decide) f15 (fun _ h9 => h9) rfl dX2_become_48 ?_
  refine lv_iconst (v := 0) hx hb dX2_become_51 (by decide) ?_
  refine lv_aload_n hx hb dX2_become_52 rfl (lv_at hl 0 rfl) ?_
  refine va_get (D := G.1) (ci := 2) (v := .ref (a 2)) (C := RX2) (T := TX2) (N := 10) hx hb hts i_X2_become_X2 hown hK.1 hP 0 rfl rfl 5 (by decide) f15 (fun _ h9 => h9) rfl dX2_become_53 ?_
  refine lv_iconst (v := 0) hx hb dX2_become_56 (by decide) ?_
  refine lv_bipush (v := 8) hx hb dX2_become_57 (by decide) ?_
  refine va_copyi hx hb (hml.trans hl.1.symm) hown f43 facn facs faci hK.1 hP hD hS 9 2 0 0 rfl rfl rfl rfl rfl (by decide) (by decide) (by decide) (by decide) (by decide) (fun _ _ => rfl) (Nat.le_of_ble_eq_true rfl) (Nat.le_of_ble_eq_true rfl) dX2_become_59 (fun H locs hP hD hS => ?_)
  have hP : va_P G.1 vwCl (wMo a G.2.1 (o.tick, o.sayings, o.hushed, o.noted, va_cpy o.frm m.frm 0 0 8, va_cpy o.speed m.speed 0 0 8, m.way, m.loud, m.said, m.deeds) ++ wMo b G.2.1 o) H := hP
  have hD : va_D A (wMo a G.2.1 (o.tick, o.sayings, o.hushed, o.noted, va_cpy o.frm m.frm 0 0 8, va_cpy o.speed m.speed 0 0 8, m.way, m.loud, m.said, m.deeds) ++ wMo b G.2.1 o) := hD
  refine lv_aload_n hx hb dX2_become_62 rfl (lv_at hl 1 rfl) ?_
  refine va_get (D := G.1) (ci := 2) (v := .ref (b 3)) (C := RX2) (T := TX2) (N := 10) hx hb hts i_X2_become_X2 hown hK.1 hP 7 rfl rfl 6 (by decide) f18 (fun _ h9 => h9) rfl dX2_become_63 ?_
  refine lv_iconst (v := 0) hx hb dX2_become_66 (by decide) ?_
  refine lv_aload_n hx hb dX2_become_67 rfl (lv_at hl 0 rfl) ?_
  refine va_get (D := G.1) (ci := 2) (v := .ref (a 3)) (C := RX2) (T := TX2) (N := 10) hx hb hts i_X2_become_X2 hown hK.1 hP 0 rfl rfl 6 (by decide) f18 (fun _ h9 => h9) rfl dX2_become_68 ?_
  refine lv_iconst (v := 0) hx hb dX2_become_71 (by decide) ?_
  refine lv_bipush (v := 8) hx hb dX2_become_72 (by decide) ?_
  refine va_copyi hx hb (hml.trans hl.1.symm) hown f43 facn facs faci hK.1 hP hD hS 10 3 0 0 rfl rfl rfl rfl rfl (by decide) (by decide) (by decide) (by decide) (by decide) (fun _ _ => rfl) (Nat.le_of_ble_eq_true rfl) (Nat.le_of_ble_eq_true rfl) dX2_become_74 (fun H locs hP hD hS => ?_)
  have hP : va_P G.1 vwCl (wMo a G.2.1 (o.tick, o.sayings, o.hushed, o.noted, va_cpy o.frm m.frm 0 0 8, va_cpy o.speed m.speed 0 0 8, va_cpy o.way m.way 0 0 8, m.loud, m.said, m.deeds) ++ wMo b G.2.1 o) H := hP
  have hD : va_D A (wMo a G.2.1 (o.tick, o.sayings, o.hushed, o.noted, va_cpy o.frm m.frm 0 0 8, va_cpy o.speed m.speed 0 0 8, va_cpy o.way m.way 0 0 8, m.loud, m.said, m.deeds) ++ wMo b G.2.1 o) := hD
  refine lv_aload_n hx hb dX2_become_77 rfl (lv_at hl 1 rfl) ?_
  refine va_get (D := G.1) (ci := 2) (v := .ref (b 4)) (C := RX2) (T := TX2) (N := 10) hx hb hts i_X2_become_X2 hown hK.1 hP 7 rfl rfl 7 (by decide) f21 (fun _ h9 => h9) rfl dX2_become_78 ?_
  refine lv_iconst (v := 0) hx hb dX2_become_81 (by decide) ?_
  refine lv_aload_n hx hb dX2_become_82 rfl (lv_at hl 0 rfl) ?_
  refine va_get (D := G.1) (ci := 2) (v := .ref (a 4)) (C := RX2) (T := TX2) (N := 10) hx hb hts i_X2_become_X2 hown hK.1 hP 0 rfl rfl 7 (by decide) f21 (fun _ h9 => h9) rfl dX2_become_83 ?_
  refine lv_iconst (v := 0) hx hb dX2_become_86 (by decide) ?_
  refine lv_bipush (v := 8) hx hb dX2_become_87 (by decide) ?_
  refine va_copyi hx hb (hml.trans hl.1.symm) hown f43 facn facs faci hK.1 hP hD hS 11 4 0 0 rfl rfl rfl rfl rfl (by decide) (by decide) (by decide) (by decide) (by decide) (fun _ _ => rfl) (Nat.le_of_ble_eq_true rfl) (Nat.le_of_ble_eq_true rfl) dX2_become_89 (fun H locs hP hD hS => ?_)
  have hP : va_P G.1 vwCl (wMo a G.2.1 (o.tick, o.sayings, o.hushed, o.noted, va_cpy o.frm m.frm 0 0 8, va_cpy o.speed m.speed 0 0 8, va_cpy o.way m.way 0 0 8, va_cpy o.loud m.loud 0 0 8, m.said, m.deeds) ++ wMo b G.2.1 o) H := hP
  have hD : va_D A (wMo a G.2.1 (o.tick, o.sayings, o.hushed, o.noted, va_cpy o.frm m.frm 0 0 8, va_cpy o.speed m.speed 0 0 8, va_cpy o.way m.way 0 0 8, va_cpy o.loud m.loud 0 0 8, m.said, m.deeds) ++ wMo b G.2.1 o) := hD
  refine lv_aload_n hx hb dX2_become_92 rfl (lv_at hl 1 rfl) ?_
  refine va_get (D := G.1) (ci := 2) (v := .ref (b 5)) (C := RX2) (T := TX2) (N := 10) hx hb hts i_X2_become_X2 hown hK.1 hP 7 rfl rfl 8 (by decide) f24 (fun _ h9 => h9) rfl dX2_become_93 ?_
  refine lv_iconst (v := 0) hx hb dX2_become_96 (by decide) ?_
  refine lv_aload_n hx hb dX2_become_97 rfl (lv_at hl 0 rfl) ?_
  refine va_get (D := G.1) (ci := 2) (v := .ref (a 5)) (C := RX2) (T := TX2) (N := 10) hx hb hts i_X2_become_X2 hown hK.1 hP 0 rfl rfl 8 (by decide) f24 (fun _ h9 => h9) rfl dX2_become_98 ?_
  refine lv_iconst (v := 0) hx hb dX2_become_101 (by decide) ?_
  refine lv_bipush (v := 8) hx hb dX2_become_102 (by decide) ?_
  refine va_copyi hx hb (hml.trans hl.1.symm) hown f43 facn facs faci hK.1 hP hD hS 12 5 0 0 rfl rfl rfl rfl rfl (by decide) (by decide) (by decide) (by decide) (by decide) (fun _ _ => rfl) (Nat.le_of_ble_eq_true rfl) (Nat.le_of_ble_eq_true rfl) dX2_become_104 (fun H locs hP hD hS => ?_)
  have hP : va_P G.1 vwCl (wMo a G.2.1 (o.tick, o.sayings, o.hushed, o.noted, va_cpy o.frm m.frm 0 0 8, va_cpy o.speed m.speed 0 0 8, va_cpy o.way m.way 0 0 8, va_cpy o.loud m.loud 0 0 8, va_cpy o.said m.said 0 0 8, m.deeds) ++ wMo b G.2.1 o) H := hP
  have hD : va_D A (wMo a G.2.1 (o.tick, o.sayings, o.hushed, o.noted, va_cpy o.frm m.frm 0 0 8, va_cpy o.speed m.speed 0 0 8, va_cpy o.way m.way 0 0 8, va_cpy o.loud m.loud 0 0 8, va_cpy o.said m.said 0 0 8, m.deeds) ++ wMo b G.2.1 o) := hD
  refine lv_aload_n hx hb dX2_become_107 rfl (lv_at hl 1 rfl) ?_
  refine va_get (D := G.1) (ci := 2) (v := .ref (b 6)) (C := RX2) (T := TX2) (N := 10) hx hb hts i_X2_become_X2 hown hK.1 hP 7 rfl rfl 9 (by decide) f27 (fun _ h9 => h9) rfl dX2_become_108 ?_
  refine lv_iconst (v := 0) hx hb dX2_become_111 (by decide) ?_
  refine lv_aload_n hx hb dX2_become_112 rfl (lv_at hl 0 rfl) ?_
  refine va_get (D := G.1) (ci := 2) (v := .ref (a 6)) (C := RX2) (T := TX2) (N := 10) hx hb hts i_X2_become_X2 hown hK.1 hP 0 rfl rfl 9 (by decide) f27 (fun _ h9 => h9) rfl dX2_become_113 ?_
  refine lv_iconst (v := 0) hx hb dX2_become_116 (by decide) ?_
  refine lv_bipush (v := 10) hx hb dX2_become_117 (by decide) ?_
  refine va_copyi hx hb (hml.trans hl.1.symm) hown f43 facn facs faci hK.1 hP hD hS 13 6 0 0 rfl rfl rfl rfl rfl (by decide) (by decide) (by decide) (by decide) (by decide) (fun _ _ => rfl) (Nat.le_of_ble_eq_true rfl) (Nat.le_of_ble_eq_true rfl) dX2_become_119 (fun H locs hP hD hS => ?_)
  have hP : va_P G.1 vwCl (wMo a G.2.1 (o.tick, o.sayings, o.hushed, o.noted, va_cpy o.frm m.frm 0 0 8, va_cpy o.speed m.speed 0 0 8, va_cpy o.way m.way 0 0 8, va_cpy o.loud m.loud 0 0 8, va_cpy o.said m.said 0 0 8, va_cpy o.deeds m.deeds 0 0 10) ++ wMo b G.2.1 o) H := hP
  have hD : va_D A (wMo a G.2.1 (o.tick, o.sayings, o.hushed, o.noted, va_cpy o.frm m.frm 0 0 8, va_cpy o.speed m.speed 0 0 8, va_cpy o.way m.way 0 0 8, va_cpy o.loud m.loud 0 0 8, va_cpy o.said m.said 0 0 8, va_cpy o.deeds m.deeds 0 0 10) ++ wMo b G.2.1 o) := hD
  exact g_wv hx hb hr hlocks hAe hP hS dX2_become_122

theorem i_X2_add_X2 : ∀ w ∈ wsX20, w ∈ wsX2_add := by decide +kernel
theorem h_X2_add : yX2_add.cls = RX2 ∧ yX2_add.cls ≠ "java/lang/invoke/MethodHandle" ∧ yX2_add.cls ≠ "java/lang/invoke/VarHandle" ∧ (parseMethodDescriptor yX2_add.desc).map (fun d => d.parameters.length) = some 4 := by decide +kernel
set_option maxHeartbeats 4000000 in
set_option maxRecDepth 100000 in
theorem c_X2_add (lz : Launch) (G : gG) (a : Nat → Nat) (m : MoS) (n : Nat) (p sp wa lo : Int32) (hn : m.sayings = nI n) (hn8 : n ≤ 8) : gWr lz yX2_add wsX2_add 0 G [.ref (a 0), .int p, .int sp, .int wa, .int lo] (wMo a G.2.1 m) (wMo a G.2.1 (moAdd m n p sp wa lo)) (some (.int (bI (decide (m.sayings < 8))))) := by
  refine g_wr (by decide) rfl (Nat.le_of_ble_eq_true rfl) ?_
  intro pz ez sz mz bz tz cz hx hb hr hml hown hts hlocks hK A hAe hP hD hS ls hl
  have hl : lv_has ls 5 [(0, .ref (a 0)), (1, .int p), (2, .int sp), (3, .int wa), (4, .int lo)] := hl
  have f15 := hts (.fieldLink RX2 15 "WhisperRing$Moment" "speed" "[I") (by decide +kernel)
  have f18 := hts (.fieldLink RX2 18 "WhisperRing$Moment" "way" "[I") (by decide +kernel)
  have f21 := hts (.fieldLink RX2 21 "WhisperRing$Moment" "loud" "[I") (by decide +kernel)
  have f24 := hts (.fieldLink RX2 24 "WhisperRing$Moment" "saidAt" "[I") (by decide +kernel)
  have f30 := hts (.fieldLink RX2 30 "WhisperRing$Moment" "tick" "I") (by decide +kernel)
  have f34 := hts (.fieldLink RX2 34 "WhisperRing$Moment" "sayings" "I") (by decide +kernel)
  have f9 := hts (.fieldLink RX2 9 "WhisperRing$Moment" "from" "[I") (by decide +kernel)
  refine lv_aload_n hx hb dX2_add_0 rfl (lv_at hl 0 rfl) ?_
  refine va_get (D := G.1) (ci := 2) (v := .int m.sayings) (C := RX2) (T := TX2) (N := 10) hx hb hts i_X2_add_X2 hown hK.1 hP 0 rfl rfl 1 (by decide) f34 (fun _ h9 => h9) rfl dX2_add_1 ?_
  refine lv_bipush (v := 8) hx hb dX2_add_4 (by decide) ?_
  refine lv_icmp_lt (tgt := 11) hx hb dX2_add_6 (by decide) (fun c_1 => ?_) (fun c_1 => ?_)
  · skip
    have h8 : n < 8 := gl_ll hn (y := 8) (k := 8) rfl (by omega) (by decide) c_1
    refine lv_aload_n hx hb dX2_add_11 rfl (lv_at hl 0 rfl) ?_
    refine va_get (D := G.1) (ci := 2) (v := .ref (a 1)) (C := RX2) (T := TX2) (N := 10) hx hb hts i_X2_add_X2 hown hK.1 hP 0 rfl rfl 4 (by decide) f9 (fun _ h9 => h9) rfl dX2_add_12 ?_
    refine lv_aload_n hx hb dX2_add_15 rfl (lv_at hl 0 rfl) ?_
    refine va_get (D := G.1) (ci := 2) (v := .int m.sayings) (C := RX2) (T := TX2) (N := 10) hx hb hts i_X2_add_X2 hown hK.1 hP 0 rfl rfl 1 (by decide) f34 (fun _ h9 => h9) rfl dX2_add_16 ?_
    refine g_top (y := nI n) (hn) ?_
    refine lv_iload_n hx hb dX2_add_19 rfl (lv_at hl 1 rfl) ?_
    refine g_iast hx hb hK.1 hP hD hS 1 0 rfl rfl (i := n) (by omega) (by decide) dX2_add_20 (fun H locs hP hD hS => ?_)
    have hP : va_P G.1 vwCl (wMo a G.2.1 (m.tick, m.sayings, m.hushed, m.noted, upd m.frm n p, m.speed, m.way, m.loud, m.said, m.deeds)) H := hP
    have hD : va_D A (wMo a G.2.1 (m.tick, m.sayings, m.hushed, m.noted, upd m.frm n p, m.speed, m.way, m.loud, m.said, m.deeds)) := hD
    refine lv_aload_n hx hb dX2_add_21 rfl (lv_at hl 0 rfl) ?_
    refine va_get (D := G.1) (ci := 2) (v := .ref (a 2)) (C := RX2) (T := TX2) (N := 10) hx hb hts i_X2_add_X2 hown hK.1 hP 0 rfl rfl 5 (by decide) f15 (fun _ h9 => h9) rfl dX2_add_22 ?_
    refine lv_aload_n hx hb dX2_add_25 rfl (lv_at hl 0 rfl) ?_
    refine va_get (D := G.1) (ci := 2) (v := .int m.sayings) (C := RX2) (T := TX2) (N := 10) hx hb hts i_X2_add_X2 hown hK.1 hP 0 rfl rfl 1 (by decide) f34 (fun _ h9 => h9) rfl dX2_add_26 ?_
    refine g_top (y := nI n) (hn) ?_
    refine lv_iload_n hx hb dX2_add_29 rfl (lv_at hl 2 rfl) ?_
    refine g_iast hx hb hK.1 hP hD hS 2 0 rfl rfl (i := n) (by omega) (by decide) dX2_add_30 (fun H locs hP hD hS => ?_)
    have hP : va_P G.1 vwCl (wMo a G.2.1 (m.tick, m.sayings, m.hushed, m.noted, upd m.frm n p, upd m.speed n sp, m.way, m.loud, m.said, m.deeds)) H := hP
    have hD : va_D A (wMo a G.2.1 (m.tick, m.sayings, m.hushed, m.noted, upd m.frm n p, upd m.speed n sp, m.way, m.loud, m.said, m.deeds)) := hD
    refine lv_aload_n hx hb dX2_add_31 rfl (lv_at hl 0 rfl) ?_
    refine va_get (D := G.1) (ci := 2) (v := .ref (a 3)) (C := RX2) (T := TX2) (N := 10) hx hb hts i_X2_add_X2 hown hK.1 hP 0 rfl rfl 6 (by decide) f18 (fun _ h9 => h9) rfl dX2_add_32 ?_
    refine lv_aload_n hx hb dX2_add_35 rfl (lv_at hl 0 rfl) ?_
    refine va_get (D := G.1) (ci := 2) (v := .int m.sayings) (C := RX2) (T := TX2) (N := 10) hx hb hts i_X2_add_X2 hown hK.1 hP 0 rfl rfl 1 (by decide) f34 (fun _ h9 => h9) rfl dX2_add_36 ?_
    refine g_top (y := nI n) (hn) ?_
    refine lv_iload_n hx hb dX2_add_39 rfl (lv_at hl 3 rfl) ?_
    refine g_iast hx hb hK.1 hP hD hS 3 0 rfl rfl (i := n) (by omega) (by decide) dX2_add_40 (fun H locs hP hD hS => ?_)
    have hP : va_P G.1 vwCl (wMo a G.2.1 (m.tick, m.sayings, m.hushed, m.noted, upd m.frm n p, upd m.speed n sp, upd m.way n wa, m.loud, m.said, m.deeds)) H := hP
    have hD : va_D A (wMo a G.2.1 (m.tick, m.sayings, m.hushed, m.noted, upd m.frm n p, upd m.speed n sp, upd m.way n wa, m.loud, m.said, m.deeds)) := hD
    refine lv_aload_n hx hb dX2_add_41 rfl (lv_at hl 0 rfl) ?_
    refine va_get (D := G.1) (ci := 2) (v := .ref (a 4)) (C := RX2) (T := TX2) (N := 10) hx hb hts i_X2_add_X2 hown hK.1 hP 0 rfl rfl 7 (by decide) f21 (fun _ h9 => h9) rfl dX2_add_42 ?_
    refine lv_aload_n hx hb dX2_add_45 rfl (lv_at hl 0 rfl) ?_
    refine va_get (D := G.1) (ci := 2) (v := .int m.sayings) (C := RX2) (T := TX2) (N := 10) hx hb hts i_X2_add_X2 hown hK.1 hP 0 rfl rfl 1 (by decide) f34 (fun _ h9 => h9) rfl dX2_add_46 ?_
    refine g_top (y := nI n) (hn) ?_
    refine lv_iload hx hb dX2_add_49 (lv_at hl 4 rfl) ?_
    refine g_iast hx hb hK.1 hP hD hS 4 0 rfl rfl (i := n) (by omega) (by decide) dX2_add_51 (fun H locs hP hD hS => ?_)
    have hP : va_P G.1 vwCl (wMo a G.2.1 (m.tick, m.sayings, m.hushed, m.noted, upd m.frm n p, upd m.speed n sp, upd m.way n wa, upd m.loud n lo, m.said, m.deeds)) H := hP
    have hD : va_D A (wMo a G.2.1 (m.tick, m.sayings, m.hushed, m.noted, upd m.frm n p, upd m.speed n sp, upd m.way n wa, upd m.loud n lo, m.said, m.deeds)) := hD
    refine lv_aload_n hx hb dX2_add_52 rfl (lv_at hl 0 rfl) ?_
    refine va_get (D := G.1) (ci := 2) (v := .ref (a 5)) (C := RX2) (T := TX2) (N := 10) hx hb hts i_X2_add_X2 hown hK.1 hP 0 rfl rfl 8 (by decide) f24 (fun _ h9 => h9) rfl dX2_add_53 ?_
    refine lv_aload_n hx hb dX2_add_56 rfl (lv_at hl 0 rfl) ?_
    refine va_get (D := G.1) (ci := 2) (v := .int m.sayings) (C := RX2) (T := TX2) (N := 10) hx hb hts i_X2_add_X2 hown hK.1 hP 0 rfl rfl 1 (by decide) f34 (fun _ h9 => h9) rfl dX2_add_57 ?_
    refine g_top (y := nI n) (hn) ?_
    refine lv_aload_n hx hb dX2_add_60 rfl (lv_at hl 0 rfl) ?_
    refine va_get (D := G.1) (ci := 2) (v := .int m.tick) (C := RX2) (T := TX2) (N := 10) hx hb hts i_X2_add_X2 hown hK.1 hP 0 rfl rfl 0 (by decide) f30 (fun _ h9 => h9) rfl dX2_add_61 ?_
    refine g_iast hx hb hK.1 hP hD hS 5 0 rfl rfl (i := n) (by omega) (by decide) dX2_add_64 (fun H locs hP hD hS => ?_)
    have hP : va_P G.1 vwCl (wMo a G.2.1 (m.tick, m.sayings, m.hushed, m.noted, upd m.frm n p, upd m.speed n sp, upd m.way n wa, upd m.loud n lo, upd m.said n m.tick, m.deeds)) H := hP
    have hD : va_D A (wMo a G.2.1 (m.tick, m.sayings, m.hushed, m.noted, upd m.frm n p, upd m.speed n sp, upd m.way n wa, upd m.loud n lo, upd m.said n m.tick, m.deeds)) := hD
    refine lv_aload_n hx hb dX2_add_65 rfl (lv_at hl 0 rfl) ?_
    refine lv_dup hx hb dX2_add_66 rfl ?_
    refine va_get (D := G.1) (ci := 2) (v := .int m.sayings) (C := RX2) (T := TX2) (N := 10) hx hb hts i_X2_add_X2 hown hK.1 hP 0 rfl rfl 1 (by decide) f34 (fun _ h9 => h9) rfl dX2_add_67 ?_
    refine lv_iconst (v := 1) hx hb dX2_add_70 (by decide) ?_
    refine lv_iadd hx hb dX2_add_71 ?_
    refine g_top (y := nI (n + 1)) (by rw [hn]; exact nI_1 n) ?_
    refine va_put (D := G.1) (ci := 2) (v := .int (nI (n + 1))) (ty := .int) (C := RX2) (T := TX2) (N := 10) hx hb hts i_X2_add_X2 tyX2 tyX2_ok nmX2 hown hK.1 hP hD hS 0 rfl rfl 1 (by decide) f34 (fun _ h9 => h9) rfl (by decide +kernel) rfl rfl (Nat.le_of_ble_eq_true rfl) dX2_add_72 (fun H locs hP hD hS => ?_)
    have hP : va_P G.1 vwCl (wMo a G.2.1 (m.tick, nI (n + 1), m.hushed, m.noted, upd m.frm n p, upd m.speed n sp, upd m.way n wa, upd m.loud n lo, upd m.said n m.tick, m.deeds)) H := hP
    have hD : va_D A (wMo a G.2.1 (m.tick, nI (n + 1), m.hushed, m.noted, upd m.frm n p, upd m.speed n sp, upd m.way n wa, upd m.loud n lo, upd m.said n m.tick, m.deeds)) := hD
    refine lv_iconst (v := 1) hx hb dX2_add_75 (by decide) ?_
    have hP : va_P G.1 vwCl (wMo a G.2.1 (moAdd m n p sp wa lo)) H := by
      rw [moAdd]
      (first | rw [if_pos c_1] | rw [if_neg c_1])
      exact hP
    exact g_wz hx hb hr hlocks hAe hP hS dX2_add_76 (by simp [bI, c_1])
  · skip
    refine lv_iconst (v := 0) hx hb dX2_add_9 (by decide) ?_
    have hP : va_P G.1 vwCl (wMo a G.2.1 (moAdd m n p sp wa lo)) sz.heap := by
      rw [moAdd]
      (first | rw [if_pos c_1] | rw [if_neg c_1])
      exact hP
    exact g_wz hx hb hr hlocks hAe hP hS dX2_add_10 (by simp [bI, c_1])

theorem i_X2_note_X2 : ∀ w ∈ wsX20, w ∈ wsX2_note := by decide +kernel
theorem h_X2_note : yX2_note.cls = RX2 ∧ yX2_note.cls ≠ "java/lang/invoke/MethodHandle" ∧ yX2_note.cls ≠ "java/lang/invoke/VarHandle" ∧ (parseMethodDescriptor yX2_note.desc).map (fun d => d.parameters.length) = some 1 := by decide +kernel
set_option maxHeartbeats 4000000 in
set_option maxRecDepth 100000 in
theorem c_X2_note (lz : Launch) (G : gG) (a : Nat → Nat) (m : MoS) (k : Nat) (dd : Int32) (hk : m.noted = nI k) (hk10 : k ≤ 10) : gWr lz yX2_note wsX2_note 1 G [.ref (a 0), .int dd] (wMo a G.2.1 m) (wMo a G.2.1 (moNote m k dd)) none := by
  refine g_wr (by decide) rfl (Nat.le_of_ble_eq_true rfl) ?_
  intro pz ez sz mz bz tz cz hx hb hr hml hown hts hlocks hK A hAe hP hD hS ls hl
  have hl : lv_has ls 2 [(0, .ref (a 0)), (1, .int dd)] := hl
  have f27 := hts (.fieldLink RX2 27 "WhisperRing$Moment" "deeds" "[I") (by decide +kernel)
  have f40 := hts (.fieldLink RX2 40 "WhisperRing$Moment" "noted" "I") (by decide +kernel)
  have f43 := hts (.methodLink RX2 43 arraycopyName) (by decide +kernel)
  have faci := hts (.initialized "java/lang/System") (by decide +kernel)
  have facn := hts (.native arraycopyName) (by decide +kernel)
  have facs := hts (.static arraycopyName) (by decide +kernel)
  refine lv_aload_n hx hb dX2_note_0 rfl (lv_at hl 0 rfl) ?_
  refine va_get (D := G.1) (ci := 2) (v := .int m.noted) (C := RX2) (T := TX2) (N := 10) hx hb hts i_X2_note_X2 hown hK.1 hP 0 rfl rfl 3 (by decide) f40 (fun _ h9 => h9) rfl dX2_note_1 ?_
  refine lv_bipush (v := 10) hx hb dX2_note_4 (by decide) ?_
  refine lv_icmp_lt (tgt := 30) hx hb dX2_note_6 (by decide) (fun c_1 => ?_) (fun c_1 => ?_)
  · skip
    have h10 : k < 10 := gl_ll hk (y := 10) (k := 10) rfl (by omega) (by decide) c_1
    refine lv_aload_n hx hb dX2_note_30 rfl (lv_at hl 0 rfl) ?_
    refine va_get (D := G.1) (ci := 2) (v := .ref (a 6)) (C := RX2) (T := TX2) (N := 10) hx hb hts i_X2_note_X2 hown hK.1 hP 0 rfl rfl 9 (by decide) f27 (fun _ h9 => h9) rfl dX2_note_31 ?_
    refine lv_aload_n hx hb dX2_note_34 rfl (lv_at hl 0 rfl) ?_
    refine va_get (D := G.1) (ci := 2) (v := .int m.noted) (C := RX2) (T := TX2) (N := 10) hx hb hts i_X2_note_X2 hown hK.1 hP 0 rfl rfl 3 (by decide) f40 (fun _ h9 => h9) rfl dX2_note_35 ?_
    refine g_top (y := nI k) (hk) ?_
    refine lv_iload_n hx hb dX2_note_38 rfl (lv_at hl 1 rfl) ?_
    refine g_iast hx hb hK.1 hP hD hS 6 0 rfl rfl (i := k) (by omega) (by decide) dX2_note_39 (fun H locs hP hD hS => ?_)
    have hP : va_P G.1 vwCl (wMo a G.2.1 (m.tick, m.sayings, m.hushed, m.noted, m.frm, m.speed, m.way, m.loud, m.said, upd m.deeds k dd)) H := hP
    have hD : va_D A (wMo a G.2.1 (m.tick, m.sayings, m.hushed, m.noted, m.frm, m.speed, m.way, m.loud, m.said, upd m.deeds k dd)) := hD
    refine lv_aload_n hx hb dX2_note_40 rfl (lv_at hl 0 rfl) ?_
    refine lv_dup hx hb dX2_note_41 rfl ?_
    refine va_get (D := G.1) (ci := 2) (v := .int m.noted) (C := RX2) (T := TX2) (N := 10) hx hb hts i_X2_note_X2 hown hK.1 hP 0 rfl rfl 3 (by decide) f40 (fun _ h9 => h9) rfl dX2_note_42 ?_
    refine lv_iconst (v := 1) hx hb dX2_note_45 (by decide) ?_
    refine lv_iadd hx hb dX2_note_46 ?_
    refine g_top (y := nI (k + 1)) (by rw [hk]; exact nI_1 k) ?_
    refine va_put (D := G.1) (ci := 2) (v := .int (nI (k + 1))) (ty := .int) (C := RX2) (T := TX2) (N := 10) hx hb hts i_X2_note_X2 tyX2 tyX2_ok nmX2 hown hK.1 hP hD hS 0 rfl rfl 3 (by decide) f40 (fun _ h9 => h9) rfl (by decide +kernel) rfl rfl (Nat.le_of_ble_eq_true rfl) dX2_note_47 (fun H locs hP hD hS => ?_)
    have hP : va_P G.1 vwCl (wMo a G.2.1 (m.tick, m.sayings, m.hushed, nI (k + 1), m.frm, m.speed, m.way, m.loud, m.said, upd m.deeds k dd)) H := hP
    have hD : va_D A (wMo a G.2.1 (m.tick, m.sayings, m.hushed, nI (k + 1), m.frm, m.speed, m.way, m.loud, m.said, upd m.deeds k dd)) := hD
    have hP : va_P G.1 vwCl (wMo a G.2.1 (moNote m k dd)) H := by
      rw [moNote]
      (first | rw [if_pos c_1] | rw [if_neg c_1])
      exact hP
    exact g_wv hx hb hr hlocks hAe hP hS dX2_note_50
  · skip
    refine lv_aload_n hx hb dX2_note_9 rfl (lv_at hl 0 rfl) ?_
    refine va_get (D := G.1) (ci := 2) (v := .ref (a 6)) (C := RX2) (T := TX2) (N := 10) hx hb hts i_X2_note_X2 hown hK.1 hP 0 rfl rfl 9 (by decide) f27 (fun _ h9 => h9) rfl dX2_note_10 ?_
    refine lv_iconst (v := 1) hx hb dX2_note_13 (by decide) ?_
    refine lv_aload_n hx hb dX2_note_14 rfl (lv_at hl 0 rfl) ?_
    refine va_get (D := G.1) (ci := 2) (v := .ref (a 6)) (C := RX2) (T := TX2) (N := 10) hx hb hts i_X2_note_X2 hown hK.1 hP 0 rfl rfl 9 (by decide) f27 (fun _ h9 => h9) rfl dX2_note_15 ?_
    refine lv_iconst (v := 0) hx hb dX2_note_18 (by decide) ?_
    refine lv_bipush (v := 9) hx hb dX2_note_19 (by decide) ?_
    refine va_copyi hx hb (hml.trans hl.1.symm) hown f43 facn facs faci hK.1 hP hD hS 6 6 0 0 rfl rfl rfl rfl rfl (by decide) (by decide) (by decide) (by decide) (by decide) (fun _ _ => rfl) (Nat.le_of_ble_eq_true rfl) (Nat.le_of_ble_eq_true rfl) dX2_note_21 (fun H locs hP hD hS => ?_)
    have hP : va_P G.1 vwCl (wMo a G.2.1 (m.tick, m.sayings, m.hushed, m.noted, m.frm, m.speed, m.way, m.loud, m.said, va_cpy m.deeds m.deeds 1 0 9)) H := hP
    have hD : va_D A (wMo a G.2.1 (m.tick, m.sayings, m.hushed, m.noted, m.frm, m.speed, m.way, m.loud, m.said, va_cpy m.deeds m.deeds 1 0 9)) := hD
    refine lv_aload_n hx hb dX2_note_24 rfl (lv_at hl 0 rfl) ?_
    refine lv_bipush (v := 9) hx hb dX2_note_25 (by decide) ?_
    refine va_put (D := G.1) (ci := 2) (v := .int 9) (ty := .int) (C := RX2) (T := TX2) (N := 10) hx hb hts i_X2_note_X2 tyX2 tyX2_ok nmX2 hown hK.1 hP hD hS 0 rfl rfl 3 (by decide) f40 (fun _ h9 => h9) rfl (by decide +kernel) rfl rfl (Nat.le_of_ble_eq_true rfl) dX2_note_27 (fun H locs hP hD hS => ?_)
    have hP : va_P G.1 vwCl (wMo a G.2.1 (m.tick, m.sayings, m.hushed, 9, m.frm, m.speed, m.way, m.loud, m.said, va_cpy m.deeds m.deeds 1 0 9)) H := hP
    have hD : va_D A (wMo a G.2.1 (m.tick, m.sayings, m.hushed, 9, m.frm, m.speed, m.way, m.loud, m.said, va_cpy m.deeds m.deeds 1 0 9)) := hD
    refine lv_aload_n hx hb dX2_note_30 rfl (lv_at hl 0 rfl) ?_
    refine va_get (D := G.1) (ci := 2) (v := .ref (a 6)) (C := RX2) (T := TX2) (N := 10) hx hb hts i_X2_note_X2 hown hK.1 hP 0 rfl rfl 9 (by decide) f27 (fun _ h9 => h9) rfl dX2_note_31 ?_
    refine lv_aload_n hx hb dX2_note_34 rfl (lv_at hl 0 rfl) ?_
    refine va_get (D := G.1) (ci := 2) (v := .int 9) (C := RX2) (T := TX2) (N := 10) hx hb hts i_X2_note_X2 hown hK.1 hP 0 rfl rfl 3 (by decide) f40 (fun _ h9 => h9) rfl dX2_note_35 ?_
    refine g_top (y := nI 9) (rfl) ?_
    refine lv_iload_n hx hb dX2_note_38 rfl (lv_at hl 1 rfl) ?_
    refine g_iast hx hb hK.1 hP hD hS 6 0 rfl rfl (i := 9) (by omega) (by decide) dX2_note_39 (fun H locs hP hD hS => ?_)
    have hP : va_P G.1 vwCl (wMo a G.2.1 (m.tick, m.sayings, m.hushed, 9, m.frm, m.speed, m.way, m.loud, m.said, upd (va_cpy m.deeds m.deeds 1 0 9) 9 dd)) H := hP
    have hD : va_D A (wMo a G.2.1 (m.tick, m.sayings, m.hushed, 9, m.frm, m.speed, m.way, m.loud, m.said, upd (va_cpy m.deeds m.deeds 1 0 9) 9 dd)) := hD
    refine lv_aload_n hx hb dX2_note_40 rfl (lv_at hl 0 rfl) ?_
    refine lv_dup hx hb dX2_note_41 rfl ?_
    refine va_get (D := G.1) (ci := 2) (v := .int 9) (C := RX2) (T := TX2) (N := 10) hx hb hts i_X2_note_X2 hown hK.1 hP 0 rfl rfl 3 (by decide) f40 (fun _ h9 => h9) rfl dX2_note_42 ?_
    refine lv_iconst (v := 1) hx hb dX2_note_45 (by decide) ?_
    refine lv_iadd hx hb dX2_note_46 ?_
    refine g_top (y := nI 10) (rfl) ?_
    refine va_put (D := G.1) (ci := 2) (v := .int (nI 10)) (ty := .int) (C := RX2) (T := TX2) (N := 10) hx hb hts i_X2_note_X2 tyX2 tyX2_ok nmX2 hown hK.1 hP hD hS 0 rfl rfl 3 (by decide) f40 (fun _ h9 => h9) rfl (by decide +kernel) rfl rfl (Nat.le_of_ble_eq_true rfl) dX2_note_47 (fun H locs hP hD hS => ?_)
    have hP : va_P G.1 vwCl (wMo a G.2.1 (m.tick, m.sayings, m.hushed, nI 10, m.frm, m.speed, m.way, m.loud, m.said, upd (va_cpy m.deeds m.deeds 1 0 9) 9 dd)) H := hP
    have hD : va_D A (wMo a G.2.1 (m.tick, m.sayings, m.hushed, nI 10, m.frm, m.speed, m.way, m.loud, m.said, upd (va_cpy m.deeds m.deeds 1 0 9) 9 dd)) := hD
    have hP : va_P G.1 vwCl (wMo a G.2.1 (moNote m k dd)) H := by
      rw [moNote]
      (first | rw [if_pos c_1] | rw [if_neg c_1])
      exact hP
    exact g_wv hx hb hr hlocks hAe hP hS dX2_note_50

theorem i_X2_goBy_X2 : ∀ w ∈ wsX20, w ∈ wsX2_goBy := by decide +kernel
theorem h_X2_goBy : yX2_goBy.cls = RX2 ∧ yX2_goBy.cls ≠ "java/lang/invoke/MethodHandle" ∧ yX2_goBy.cls ≠ "java/lang/invoke/VarHandle" ∧ (parseMethodDescriptor yX2_goBy.desc).map (fun d => d.parameters.length) = some 1 := by decide +kernel
set_option maxHeartbeats 4000000 in
set_option maxRecDepth 100000 in
theorem c_X2_goBy (lz : Launch) (G : gG) (a : Nat → Nat) (m : MoS) (k : Nat) (x : Int32) (hk : m.noted = nI k) (hk10 : k ≤ 10) : gWr lz yX2_goBy wsX2_goBy 2 G [.ref (a 0), .int x] (wMo a G.2.1 m) (wMo a G.2.1 (moGo m k x)) none := by
  refine g_wr (by decide) rfl (Nat.le_of_ble_eq_true rfl) ?_
  intro pz ez sz mz bz tz cz hx hb hr hml hown hts hlocks hK A hAe hP hD hS ls hl
  have hl : lv_has ls 2 [(0, .ref (a 0)), (1, .int x)] := hl
  have f30 := hts (.fieldLink RX2 30 "WhisperRing$Moment" "tick" "I") (by decide +kernel)
  refine lv_aload_n hx hb dX2_goBy_0 rfl (lv_at hl 0 rfl) ?_
  refine lv_dup hx hb dX2_goBy_1 rfl ?_
  refine va_get (D := G.1) (ci := 2) (v := .int m.tick) (C := RX2) (T := TX2) (N := 10) hx hb hts i_X2_goBy_X2 hown hK.1 hP 0 rfl rfl 0 (by decide) f30 (fun _ h9 => h9) rfl dX2_goBy_2 ?_
  refine lv_iload_n hx hb dX2_goBy_5 rfl (lv_at hl 1 rfl) ?_
  refine lv_iadd hx hb dX2_goBy_6 ?_
  refine va_put (D := G.1) (ci := 2) (v := .int (m.tick + x)) (ty := .int) (C := RX2) (T := TX2) (N := 10) hx hb hts i_X2_goBy_X2 tyX2 tyX2_ok nmX2 hown hK.1 hP hD hS 0 rfl rfl 0 (by decide) f30 (fun _ h9 => h9) rfl (by decide +kernel) rfl rfl (Nat.le_of_ble_eq_true rfl) dX2_goBy_7 (fun H locs hP hD hS => ?_)
  have hP : va_P G.1 vwCl (wMo a G.2.1 (m.tick + x, m.sayings, m.hushed, m.noted, m.frm, m.speed, m.way, m.loud, m.said, m.deeds)) H := hP
  have hD : va_D A (wMo a G.2.1 (m.tick + x, m.sayings, m.hushed, m.noted, m.frm, m.speed, m.way, m.loud, m.said, m.deeds)) := hD
  refine lv_aload_n hx hb dX2_goBy_10 rfl (lv_at hl 0 rfl) ?_
  refine lv_iload_n hx hb dX2_goBy_11 rfl (lv_at hl 1 rfl) ?_
  refine g_wrV (As := [.int x]) (rest := []) (nL := 2) hx hb hml hown hts (c_X2_note lz G a (m.tick + x, m.sayings, m.hushed, m.noted, m.frm, m.speed, m.way, m.loud, m.said, m.deeds) k x hk hk10) gX2_goBy_X2_note rfl h_X2_note ⟨Nat.le_of_ble_eq_true rfl, Nat.le_of_ble_eq_true rfl⟩ hK hP hD hS [0, 1, 2, 3, 4, 5, 6] rfl rfl rfl (ws1 := wMo a G.2.1 (moNote (m.tick + x, m.sayings, m.hushed, m.noted, m.frm, m.speed, m.way, m.loud, m.said, m.deeds) k x)) rfl [a 0, a 1, a 2, a 3, a 4, a 5, a 6] rfl rfl (ci := 2) rfl rfl rfl rfl hl.1 rfl (Nat.le_of_ble_eq_true rfl) ⟨Nat.le_refl _, Nat.le_refl _⟩ dX2_goBy_12 (fun H locs hP hD hS => ?_)
  exact g_wv hx hb hr hlocks hAe hP hS dX2_goBy_15

theorem i_X2_hush_X2 : ∀ w ∈ wsX20, w ∈ wsX2_hush := by decide +kernel
theorem h_X2_hush : yX2_hush.cls = RX2 ∧ yX2_hush.cls ≠ "java/lang/invoke/MethodHandle" ∧ yX2_hush.cls ≠ "java/lang/invoke/VarHandle" ∧ (parseMethodDescriptor yX2_hush.desc).map (fun d => d.parameters.length) = some 1 := by decide +kernel
set_option maxHeartbeats 4000000 in
set_option maxRecDepth 100000 in
theorem c_X2_hush (lz : Launch) (G : gG) (a : Nat → Nat) (m : MoS) (k : Nat) (s : Int32) (hk : m.noted = nI k) (hk10 : k ≤ 10) : gWr lz yX2_hush wsX2_hush 2 G [.ref (a 0), .int s] (wMo a G.2.1 m) (wMo a G.2.1 (moHush m k s)) none := by
  refine g_wr (by decide) rfl (Nat.le_of_ble_eq_true rfl) ?_
  intro pz ez sz mz bz tz cz hx hb hr hml hown hts hlocks hK A hAe hP hD hS ls hl
  have hl : lv_has ls 2 [(0, .ref (a 0)), (1, .int s)] := hl
  have f37 := hts (.fieldLink RX2 37 "WhisperRing$Moment" "hushed" "I") (by decide +kernel)
  refine lv_aload_n hx hb dX2_hush_0 rfl (lv_at hl 0 rfl) ?_
  refine lv_dup hx hb dX2_hush_1 rfl ?_
  refine va_get (D := G.1) (ci := 2) (v := .int m.hushed) (C := RX2) (T := TX2) (N := 10) hx hb hts i_X2_hush_X2 hown hK.1 hP 0 rfl rfl 2 (by decide) f37 (fun _ h9 => h9) rfl dX2_hush_2 ?_
  refine lv_iconst (v := 1) hx hb dX2_hush_5 (by decide) ?_
  refine lv_iload_n hx hb dX2_hush_6 rfl (lv_at hl 1 rfl) ?_
  refine lv_ishl hx hb dX2_hush_7 ?_
  refine lv_ior hx hb dX2_hush_8 ?_
  refine va_put (D := G.1) (ci := 2) (v := .int (m.hushed ||| (1 <<< (s &&& 31)))) (ty := .int) (C := RX2) (T := TX2) (N := 10) hx hb hts i_X2_hush_X2 tyX2 tyX2_ok nmX2 hown hK.1 hP hD hS 0 rfl rfl 2 (by decide) f37 (fun _ h9 => h9) rfl (by decide +kernel) rfl rfl (Nat.le_of_ble_eq_true rfl) dX2_hush_9 (fun H locs hP hD hS => ?_)
  have hP : va_P G.1 vwCl (wMo a G.2.1 (m.tick, m.sayings, m.hushed ||| (1 <<< (s &&& 31)), m.noted, m.frm, m.speed, m.way, m.loud, m.said, m.deeds)) H := hP
  have hD : va_D A (wMo a G.2.1 (m.tick, m.sayings, m.hushed ||| (1 <<< (s &&& 31)), m.noted, m.frm, m.speed, m.way, m.loud, m.said, m.deeds)) := hD
  refine lv_aload_n hx hb dX2_hush_12 rfl (lv_at hl 0 rfl) ?_
  refine lv_iconst (v := (-1)) hx hb dX2_hush_13 (by decide) ?_
  refine lv_iload_n hx hb dX2_hush_14 rfl (lv_at hl 1 rfl) ?_
  refine lv_isub hx hb dX2_hush_15 ?_
  refine g_wrV (As := [.int ((-1) - s)]) (rest := []) (nL := 2) hx hb hml hown hts (c_X2_note lz G a (m.tick, m.sayings, m.hushed ||| (1 <<< (s &&& 31)), m.noted, m.frm, m.speed, m.way, m.loud, m.said, m.deeds) k ((-1) - s) hk hk10) gX2_hush_X2_note rfl h_X2_note ⟨Nat.le_of_ble_eq_true rfl, Nat.le_of_ble_eq_true rfl⟩ hK hP hD hS [0, 1, 2, 3, 4, 5, 6] rfl rfl rfl (ws1 := wMo a G.2.1 (moNote (m.tick, m.sayings, m.hushed ||| (1 <<< (s &&& 31)), m.noted, m.frm, m.speed, m.way, m.loud, m.said, m.deeds) k ((-1) - s))) rfl [a 0, a 1, a 2, a 3, a 4, a 5, a 6] rfl rfl (ci := 2) rfl rfl rfl rfl hl.1 rfl (Nat.le_of_ble_eq_true rfl) ⟨Nat.le_refl _, Nat.le_refl _⟩ dX2_hush_16 (fun H locs hP hD hS => ?_)
  exact g_wv hx hb hr hlocks hAe hP hS dX2_hush_19

theorem i_X2_takeBack_X2 : ∀ w ∈ wsX20, w ∈ wsX2_takeBack := by decide +kernel
theorem h_X2_takeBack : yX2_takeBack.cls = RX2 ∧ yX2_takeBack.cls ≠ "java/lang/invoke/MethodHandle" ∧ yX2_takeBack.cls ≠ "java/lang/invoke/VarHandle" ∧ (parseMethodDescriptor yX2_takeBack.desc).map (fun d => d.parameters.length) = some 0 := by decide +kernel
set_option maxHeartbeats 4000000 in
set_option maxRecDepth 100000 in
theorem c_X2_takeBack (lz : Launch) (G : gG) (a : Nat → Nat) (m : MoS) (k : Nat) (hk : m.noted = nI k) (hk10 : k ≤ 10) : gWr lz yX2_takeBack wsX2_takeBack 0 G [.ref (a 0)] (wMo a G.2.1 m) (wMo a G.2.1 (moBack m k)) (some (.int (bI (decide (0 < m.noted))))) := by
  refine g_wr (by decide) rfl (Nat.le_of_ble_eq_true rfl) ?_
  intro pz ez sz mz bz tz cz hx hb hr hml hown hts hlocks hK A hAe hP hD hS ls hl
  have hl : lv_has ls 2 [(0, .ref (a 0))] := hl
  have f27 := hts (.fieldLink RX2 27 "WhisperRing$Moment" "deeds" "[I") (by decide +kernel)
  have f30 := hts (.fieldLink RX2 30 "WhisperRing$Moment" "tick" "I") (by decide +kernel)
  have f34 := hts (.fieldLink RX2 34 "WhisperRing$Moment" "sayings" "I") (by decide +kernel)
  have f37 := hts (.fieldLink RX2 37 "WhisperRing$Moment" "hushed" "I") (by decide +kernel)
  have f40 := hts (.fieldLink RX2 40 "WhisperRing$Moment" "noted" "I") (by decide +kernel)
  refine lv_aload_n hx hb dX2_takeBack_0 rfl (lv_at hl 0 rfl) ?_
  refine va_get (D := G.1) (ci := 2) (v := .int m.noted) (C := RX2) (T := TX2) (N := 10) hx hb hts i_X2_takeBack_X2 hown hK.1 hP 0 rfl rfl 3 (by decide) f40 (fun _ h9 => h9) rfl dX2_takeBack_1 ?_
  refine lv_if_gt (tgt := 9) hx hb dX2_takeBack_4 (by decide) (fun c_1 => ?_) (fun c_1 => ?_)
  · skip
    have hk1 : 1 ≤ k := gl_gg hk (y := 0) (k := 0) rfl (by omega) (by decide) c_1
    refine lv_aload_n hx hb dX2_takeBack_9 rfl (lv_at hl 0 rfl) ?_
    refine lv_dup hx hb dX2_takeBack_10 rfl ?_
    refine va_get (D := G.1) (ci := 2) (v := .int m.noted) (C := RX2) (T := TX2) (N := 10) hx hb hts i_X2_takeBack_X2 hown hK.1 hP 0 rfl rfl 3 (by decide) f40 (fun _ h9 => h9) rfl dX2_takeBack_11 ?_
    refine lv_iconst (v := 1) hx hb dX2_takeBack_14 (by decide) ?_
    refine lv_isub hx hb dX2_takeBack_15 ?_
    refine g_top (y := nI (k - 1)) (by rw [hk]; exact pk_sub (b := 1) hk1) ?_
    refine va_put (D := G.1) (ci := 2) (v := .int (nI (k - 1))) (ty := .int) (C := RX2) (T := TX2) (N := 10) hx hb hts i_X2_takeBack_X2 tyX2 tyX2_ok nmX2 hown hK.1 hP hD hS 0 rfl rfl 3 (by decide) f40 (fun _ h9 => h9) rfl (by decide +kernel) rfl rfl (Nat.le_of_ble_eq_true rfl) dX2_takeBack_16 (fun H locs hP hD hS => ?_)
    have hP : va_P G.1 vwCl (wMo a G.2.1 (m.tick, m.sayings, m.hushed, nI (k - 1), m.frm, m.speed, m.way, m.loud, m.said, m.deeds)) H := hP
    have hD : va_D A (wMo a G.2.1 (m.tick, m.sayings, m.hushed, nI (k - 1), m.frm, m.speed, m.way, m.loud, m.said, m.deeds)) := hD
    refine lv_aload_n hx hb dX2_takeBack_19 rfl (lv_at hl 0 rfl) ?_
    refine va_get (D := G.1) (ci := 2) (v := .ref (a 6)) (C := RX2) (T := TX2) (N := 10) hx hb hts i_X2_takeBack_X2 hown hK.1 hP 0 rfl rfl 9 (by decide) f27 (fun _ h9 => h9) rfl dX2_takeBack_20 ?_
    refine lv_aload_n hx hb dX2_takeBack_23 rfl (lv_at hl 0 rfl) ?_
    refine va_get (D := G.1) (ci := 2) (v := .int (nI (k - 1))) (C := RX2) (T := TX2) (N := 10) hx hb hts i_X2_takeBack_X2 hown hK.1 hP 0 rfl rfl 3 (by decide) f40 (fun _ h9 => h9) rfl dX2_takeBack_24 ?_
    refine g_iald hx hb hK.1 hP 6 0 rfl rfl (i := (k - 1)) (by omega) (by decide) dX2_takeBack_27 ?_
    refine lv_istore_n (lv' := [(1, .int (m.deeds (k - 1))), (0, .ref (a 0))]) hx hb dX2_takeBack_28 rfl hl (by decide) rfl (fun ls hl => ?_)
    refine lv_iload_n hx hb dX2_takeBack_29 rfl (lv_at hl 0 rfl) ?_
    refine lv_if_ne (tgt := 46) hx hb dX2_takeBack_30 (by decide) (fun c_2 => ?_) (fun c_2 => ?_)
    · skip
      refine lv_iload_n hx hb dX2_takeBack_46 rfl (lv_at hl 0 rfl) ?_
      refine lv_if_le (tgt := 63) hx hb dX2_takeBack_47 (by decide) (fun c_3 => ?_) (fun c_3 => ?_)
      · skip
        have c_3 := gl_le c_3
        refine lv_aload_n hx hb dX2_takeBack_63 rfl (lv_at hl 1 rfl) ?_
        refine lv_dup hx hb dX2_takeBack_64 rfl ?_
        refine va_get (D := G.1) (ci := 2) (v := .int m.hushed) (C := RX2) (T := TX2) (N := 10) hx hb hts i_X2_takeBack_X2 hown hK.1 hP 0 rfl rfl 2 (by decide) f37 (fun _ h9 => h9) rfl dX2_takeBack_65 ?_
        refine lv_iconst (v := 1) hx hb dX2_takeBack_68 (by decide) ?_
        refine lv_iconst (v := (-1)) hx hb dX2_takeBack_69 (by decide) ?_
        refine lv_iload_n hx hb dX2_takeBack_70 rfl (lv_at hl 0 rfl) ?_
        refine lv_isub hx hb dX2_takeBack_71 ?_
        refine lv_ishl hx hb dX2_takeBack_72 ?_
        refine lv_iconst (v := (-1)) hx hb dX2_takeBack_73 (by decide) ?_
        refine lv_ixor hx hb dX2_takeBack_74 ?_
        refine lv_iand hx hb dX2_takeBack_75 ?_
        refine va_put (D := G.1) (ci := 2) (v := .int (m.hushed &&& ((1 <<< (((-1) - (m.deeds (k - 1))) &&& 31)) ^^^ (-1)))) (ty := .int) (C := RX2) (T := TX2) (N := 10) hx hb hts i_X2_takeBack_X2 tyX2 tyX2_ok nmX2 hown hK.1 hP hD hS 0 rfl rfl 2 (by decide) f37 (fun _ h9 => h9) rfl (by decide +kernel) rfl rfl (Nat.le_of_ble_eq_true rfl) dX2_takeBack_76 (fun H locs hP hD hS => ?_)
        have hP : va_P G.1 vwCl (wMo a G.2.1 (m.tick, m.sayings, m.hushed &&& ((1 <<< (((-1) - (m.deeds (k - 1))) &&& 31)) ^^^ (-1)), nI (k - 1), m.frm, m.speed, m.way, m.loud, m.said, m.deeds)) H := hP
        have hD : va_D A (wMo a G.2.1 (m.tick, m.sayings, m.hushed &&& ((1 <<< (((-1) - (m.deeds (k - 1))) &&& 31)) ^^^ (-1)), nI (k - 1), m.frm, m.speed, m.way, m.loud, m.said, m.deeds)) := hD
        refine lv_iconst (v := 1) hx hb dX2_takeBack_79 (by decide) ?_
        have hP : va_P G.1 vwCl (wMo a G.2.1 (moBack m k)) H := by
          rw [moBack]
          (first | rw [if_pos c_1] | rw [if_neg c_1])
          (first | rw [if_pos c_2] | rw [if_neg c_2])
          (first | rw [if_pos c_3] | rw [if_neg c_3])
          exact hP
        exact g_wz hx hb hr hlocks hAe hP hS dX2_takeBack_80 (by simp [bI, c_1, c_2, c_3])
      · skip
        have c_3 := gl_nle c_3
        refine lv_aload_n hx hb dX2_takeBack_50 rfl (lv_at hl 1 rfl) ?_
        refine lv_dup hx hb dX2_takeBack_51 rfl ?_
        refine va_get (D := G.1) (ci := 2) (v := .int m.tick) (C := RX2) (T := TX2) (N := 10) hx hb hts i_X2_takeBack_X2 hown hK.1 hP 0 rfl rfl 0 (by decide) f30 (fun _ h9 => h9) rfl dX2_takeBack_52 ?_
        refine lv_iload_n hx hb dX2_takeBack_55 rfl (lv_at hl 0 rfl) ?_
        refine lv_isub hx hb dX2_takeBack_56 ?_
        refine va_put (D := G.1) (ci := 2) (v := .int (m.tick - (m.deeds (k - 1)))) (ty := .int) (C := RX2) (T := TX2) (N := 10) hx hb hts i_X2_takeBack_X2 tyX2 tyX2_ok nmX2 hown hK.1 hP hD hS 0 rfl rfl 0 (by decide) f30 (fun _ h9 => h9) rfl (by decide +kernel) rfl rfl (Nat.le_of_ble_eq_true rfl) dX2_takeBack_57 (fun H locs hP hD hS => ?_)
        have hP : va_P G.1 vwCl (wMo a G.2.1 (m.tick - (m.deeds (k - 1)), m.sayings, m.hushed, nI (k - 1), m.frm, m.speed, m.way, m.loud, m.said, m.deeds)) H := hP
        have hD : va_D A (wMo a G.2.1 (m.tick - (m.deeds (k - 1)), m.sayings, m.hushed, nI (k - 1), m.frm, m.speed, m.way, m.loud, m.said, m.deeds)) := hD
        refine lv_goto (tgt := 79) hx hb dX2_takeBack_60 (by decide) ?_
        refine lv_iconst (v := 1) hx hb dX2_takeBack_79 (by decide) ?_
        have hP : va_P G.1 vwCl (wMo a G.2.1 (moBack m k)) H := by
          rw [moBack]
          (first | rw [if_pos c_1] | rw [if_neg c_1])
          (first | rw [if_pos c_2] | rw [if_neg c_2])
          (first | rw [if_pos c_3] | rw [if_neg c_3])
          exact hP
        exact g_wz hx hb hr hlocks hAe hP hS dX2_takeBack_80 (by simp [bI, c_1, c_2, c_3])
    · skip
      refine lv_aload_n hx hb dX2_takeBack_33 rfl (lv_at hl 1 rfl) ?_
      refine lv_dup hx hb dX2_takeBack_34 rfl ?_
      refine va_get (D := G.1) (ci := 2) (v := .int m.sayings) (C := RX2) (T := TX2) (N := 10) hx hb hts i_X2_takeBack_X2 hown hK.1 hP 0 rfl rfl 1 (by decide) f34 (fun _ h9 => h9) rfl dX2_takeBack_35 ?_
      refine lv_iconst (v := 1) hx hb dX2_takeBack_38 (by decide) ?_
      refine lv_isub hx hb dX2_takeBack_39 ?_
      refine va_put (D := G.1) (ci := 2) (v := .int (m.sayings - 1)) (ty := .int) (C := RX2) (T := TX2) (N := 10) hx hb hts i_X2_takeBack_X2 tyX2 tyX2_ok nmX2 hown hK.1 hP hD hS 0 rfl rfl 1 (by decide) f34 (fun _ h9 => h9) rfl (by decide +kernel) rfl rfl (Nat.le_of_ble_eq_true rfl) dX2_takeBack_40 (fun H locs hP hD hS => ?_)
      have hP : va_P G.1 vwCl (wMo a G.2.1 (m.tick, m.sayings - 1, m.hushed, nI (k - 1), m.frm, m.speed, m.way, m.loud, m.said, m.deeds)) H := hP
      have hD : va_D A (wMo a G.2.1 (m.tick, m.sayings - 1, m.hushed, nI (k - 1), m.frm, m.speed, m.way, m.loud, m.said, m.deeds)) := hD
      refine lv_goto (tgt := 79) hx hb dX2_takeBack_43 (by decide) ?_
      refine lv_iconst (v := 1) hx hb dX2_takeBack_79 (by decide) ?_
      have hP : va_P G.1 vwCl (wMo a G.2.1 (moBack m k)) H := by
        rw [moBack]
        (first | rw [if_pos c_1] | rw [if_neg c_1])
        (first | rw [if_pos c_2] | rw [if_neg c_2])
        exact hP
      exact g_wz hx hb hr hlocks hAe hP hS dX2_takeBack_80 (by simp [bI, c_1, c_2])
  · skip
    refine lv_iconst (v := 0) hx hb dX2_takeBack_7 (by decide) ?_
    have hP : va_P G.1 vwCl (wMo a G.2.1 (moBack m k)) sz.heap := by
      rw [moBack]
      (first | rw [if_pos c_1] | rw [if_neg c_1])
      exact hP
    exact g_wz hx hb hr hlocks hAe hP hS dX2_takeBack_8 (by simp [bI, c_1])

theorem i_X0_empty_X0 : ∀ w ∈ wsX00, w ∈ wsX0_empty := by decide +kernel
theorem h_X0_empty : yX0_empty.cls = RX0 ∧ yX0_empty.cls ≠ "java/lang/invoke/MethodHandle" ∧ yX0_empty.cls ≠ "java/lang/invoke/VarHandle" ∧ (parseMethodDescriptor yX0_empty.desc).map (fun d => d.parameters.length) = some 0 := by decide +kernel
set_option maxHeartbeats 4000000 in
set_option maxRecDepth 100000 in
theorem c_X0_empty (lz : Launch) (G : gG) (a : Nat → Nat) (h : HaS) : gWr lz yX0_empty wsX0_empty 1 G [.ref (a 0)] (wHa a G.2.1 h) (wHa a G.2.1 (hEmp h)) none := by
  refine g_wr (by decide) rfl (Nat.le_of_ble_eq_true rfl) ?_
  intro pz ez sz mz bz tz cz hx hb hr hml hown hts hlocks hK A hAe hP hD hS ls hl
  have hl : lv_has ls 1 [(0, .ref (a 0))] := hl
  have f15 := hts (.fieldLink RX0 15 "WhisperRing$Hall" "loss" "I") (by decide +kernel)
  have f21 := hts (.fieldLink RX0 21 "WhisperRing$Hall" "now" "LWhisperRing$Moment;") (by decide +kernel)
  have f32 := hts (.fieldLink RX0 32 "WhisperRing$Hall" "niches" "I") (by decide +kernel)
  have f9 := hts (.fieldLink RX0 9 "WhisperRing$Hall" "places" "I") (by decide +kernel)
  refine lv_aload_n hx hb dX0_empty_0 rfl (lv_at hl 0 rfl) ?_
  refine lv_bipush (v := 12) hx hb dX0_empty_1 (by decide) ?_
  refine va_put (D := G.1) (ci := 0) (v := .int 12) (ty := .int) (C := RX0) (T := TX0) (N := 6) hx hb hts i_X0_empty_X0 tyX0 tyX0_ok nmX0 hown hK.1 hP hD hS 0 rfl rfl 0 (by decide) f9 (fun _ h9 => h9) rfl (by decide +kernel) rfl rfl (Nat.le_of_ble_eq_true rfl) dX0_empty_3 (fun H locs hP hD hS => ?_)
  have hP : va_P G.1 vwCl (wHa a G.2.1 (12, h.loss, h.nich, h.mo, h.ats, h.str)) H := hP
  have hD : va_D A (wHa a G.2.1 (12, h.loss, h.nich, h.mo, h.ats, h.str)) := hD
  refine lv_aload_n hx hb dX0_empty_6 rfl (lv_at hl 0 rfl) ?_
  refine lv_iconst (v := 1) hx hb dX0_empty_7 (by decide) ?_
  refine va_put (D := G.1) (ci := 0) (v := .int 1) (ty := .int) (C := RX0) (T := TX0) (N := 6) hx hb hts i_X0_empty_X0 tyX0 tyX0_ok nmX0 hown hK.1 hP hD hS 0 rfl rfl 1 (by decide) f15 (fun _ h9 => h9) rfl (by decide +kernel) rfl rfl (Nat.le_of_ble_eq_true rfl) dX0_empty_8 (fun H locs hP hD hS => ?_)
  have hP : va_P G.1 vwCl (wHa a G.2.1 (12, 1, h.nich, h.mo, h.ats, h.str)) H := hP
  have hD : va_D A (wHa a G.2.1 (12, 1, h.nich, h.mo, h.ats, h.str)) := hD
  refine lv_aload_n hx hb dX0_empty_11 rfl (lv_at hl 0 rfl) ?_
  refine lv_iconst (v := 0) hx hb dX0_empty_12 (by decide) ?_
  refine va_put (D := G.1) (ci := 0) (v := .int 0) (ty := .int) (C := RX0) (T := TX0) (N := 6) hx hb hts i_X0_empty_X0 tyX0 tyX0_ok nmX0 hown hK.1 hP hD hS 0 rfl rfl 2 (by decide) f32 (fun _ h9 => h9) rfl (by decide +kernel) rfl rfl (Nat.le_of_ble_eq_true rfl) dX0_empty_13 (fun H locs hP hD hS => ?_)
  have hP : va_P G.1 vwCl (wHa a G.2.1 (12, 1, 0, h.mo, h.ats, h.str)) H := hP
  have hD : va_D A (wHa a G.2.1 (12, 1, 0, h.mo, h.ats, h.str)) := hD
  refine lv_aload_n hx hb dX0_empty_16 rfl (lv_at hl 0 rfl) ?_
  refine va_get (D := G.1) (ci := 0) (v := .ref (a 1)) (C := RX0) (T := TX0) (N := 6) hx hb hts i_X0_empty_X0 hown hK.1 hP 0 rfl rfl 3 (by decide) f21 (fun _ h9 => h9) rfl dX0_empty_17 ?_
  refine g_wrV (As := []) (rest := []) (nL := 1) hx hb hml hown hts (c_X2_empty lz G (sh 1 a) h.mo ) gX0_empty_X2_empty rfl h_X2_empty ⟨Nat.le_of_ble_eq_true rfl, Nat.le_of_ble_eq_true rfl⟩ hK hP hD hS [1, 2, 3, 4, 5, 6, 7] rfl rfl rfl (ws1 := wHa a G.2.1 (12, 1, 0, (moEmp h.mo), h.ats, h.str)) rfl [a 0, a 1, a 2, a 3, a 4, a 5, a 6, a 7, a 8, a 9] rfl rfl (ci := 2) rfl rfl rfl rfl hl.1 rfl (Nat.le_of_ble_eq_true rfl) ⟨Nat.le_refl _, Nat.le_refl _⟩ dX0_empty_20 (fun H locs hP hD hS => ?_)
  exact g_wv hx hb hr hlocks hAe hP hS dX0_empty_23

theorem i_X1_add_X1 : ∀ w ∈ wsX10, w ∈ wsX1_add := by decide +kernel
theorem h_X1_add : yX1_add.cls = RX1 ∧ yX1_add.cls ≠ "java/lang/invoke/MethodHandle" ∧ yX1_add.cls ≠ "java/lang/invoke/VarHandle" ∧ (parseMethodDescriptor yX1_add.desc).map (fun d => d.parameters.length) = some 3 := by decide +kernel
set_option maxHeartbeats 4000000 in
set_option maxRecDepth 100000 in
theorem c_X1_add (lz : Launch) (G : gG) (b : Nat → Nat) (u : HeS) (k : Nat) (p n th : Int32) (hk : u.size = nI k) (hk6 : k ≤ 6) : gWr lz yX1_add wsX1_add 0 G [.ref (b 0), .int p, .int n, .int th] (wHe b G.2.1 u) (wHe b G.2.1 (heAdd u k p n th)) (some (.int (bI (decide (u.size < 6))))) := by
  refine g_wr (by decide) rfl (Nat.le_of_ble_eq_true rfl) ?_
  intro pz ez sz mz bz tz cz hx hb hr hml hown hts hlocks hK A hAe hP hD hS ls hl
  have hl : lv_has ls 4 [(0, .ref (b 0)), (1, .int p), (2, .int n), (3, .int th)] := hl
  have f15 := hts (.fieldLink RX1 15 "WhisperRing$Hearsay" "behind" "[I") (by decide +kernel)
  have f18 := hts (.fieldLink RX1 18 "WhisperRing$Hearsay" "there" "[I") (by decide +kernel)
  have f21 := hts (.fieldLink RX1 21 "WhisperRing$Hearsay" "size" "I") (by decide +kernel)
  have f9 := hts (.fieldLink RX1 9 "WhisperRing$Hearsay" "at" "[I") (by decide +kernel)
  refine lv_aload_n hx hb dX1_add_0 rfl (lv_at hl 0 rfl) ?_
  refine va_get (D := G.1) (ci := 1) (v := .int u.size) (C := RX1) (T := TX1) (N := 4) hx hb hts i_X1_add_X1 hown hK.1 hP 0 rfl rfl 0 (by decide) f21 (fun _ h9 => h9) rfl dX1_add_1 ?_
  refine lv_bipush (v := 6) hx hb dX1_add_4 (by decide) ?_
  refine lv_icmp_lt (tgt := 11) hx hb dX1_add_6 (by decide) (fun c_1 => ?_) (fun c_1 => ?_)
  · skip
    have h6 : k < 6 := gl_ll hk (y := 6) (k := 6) rfl (by omega) (by decide) c_1
    refine lv_aload_n hx hb dX1_add_11 rfl (lv_at hl 0 rfl) ?_
    refine va_get (D := G.1) (ci := 1) (v := .ref (b 1)) (C := RX1) (T := TX1) (N := 4) hx hb hts i_X1_add_X1 hown hK.1 hP 0 rfl rfl 1 (by decide) f9 (fun _ h9 => h9) rfl dX1_add_12 ?_
    refine lv_aload_n hx hb dX1_add_15 rfl (lv_at hl 0 rfl) ?_
    refine va_get (D := G.1) (ci := 1) (v := .int u.size) (C := RX1) (T := TX1) (N := 4) hx hb hts i_X1_add_X1 hown hK.1 hP 0 rfl rfl 0 (by decide) f21 (fun _ h9 => h9) rfl dX1_add_16 ?_
    refine g_top (y := nI k) (hk) ?_
    refine lv_iload_n hx hb dX1_add_19 rfl (lv_at hl 1 rfl) ?_
    refine g_iast hx hb hK.1 hP hD hS 1 0 rfl rfl (i := k) (by omega) (by decide) dX1_add_20 (fun H locs hP hD hS => ?_)
    have hP : va_P G.1 vwCl (wHe b G.2.1 (u.size, upd u.ats k p, u.beh, u.the)) H := hP
    have hD : va_D A (wHe b G.2.1 (u.size, upd u.ats k p, u.beh, u.the)) := hD
    refine lv_aload_n hx hb dX1_add_21 rfl (lv_at hl 0 rfl) ?_
    refine va_get (D := G.1) (ci := 1) (v := .ref (b 2)) (C := RX1) (T := TX1) (N := 4) hx hb hts i_X1_add_X1 hown hK.1 hP 0 rfl rfl 2 (by decide) f15 (fun _ h9 => h9) rfl dX1_add_22 ?_
    refine lv_aload_n hx hb dX1_add_25 rfl (lv_at hl 0 rfl) ?_
    refine va_get (D := G.1) (ci := 1) (v := .int u.size) (C := RX1) (T := TX1) (N := 4) hx hb hts i_X1_add_X1 hown hK.1 hP 0 rfl rfl 0 (by decide) f21 (fun _ h9 => h9) rfl dX1_add_26 ?_
    refine g_top (y := nI k) (hk) ?_
    refine lv_iload_n hx hb dX1_add_29 rfl (lv_at hl 2 rfl) ?_
    refine g_iast hx hb hK.1 hP hD hS 2 0 rfl rfl (i := k) (by omega) (by decide) dX1_add_30 (fun H locs hP hD hS => ?_)
    have hP : va_P G.1 vwCl (wHe b G.2.1 (u.size, upd u.ats k p, upd u.beh k n, u.the)) H := hP
    have hD : va_D A (wHe b G.2.1 (u.size, upd u.ats k p, upd u.beh k n, u.the)) := hD
    refine lv_aload_n hx hb dX1_add_31 rfl (lv_at hl 0 rfl) ?_
    refine va_get (D := G.1) (ci := 1) (v := .ref (b 3)) (C := RX1) (T := TX1) (N := 4) hx hb hts i_X1_add_X1 hown hK.1 hP 0 rfl rfl 3 (by decide) f18 (fun _ h9 => h9) rfl dX1_add_32 ?_
    refine lv_aload_n hx hb dX1_add_35 rfl (lv_at hl 0 rfl) ?_
    refine va_get (D := G.1) (ci := 1) (v := .int u.size) (C := RX1) (T := TX1) (N := 4) hx hb hts i_X1_add_X1 hown hK.1 hP 0 rfl rfl 0 (by decide) f21 (fun _ h9 => h9) rfl dX1_add_36 ?_
    refine g_top (y := nI k) (hk) ?_
    refine lv_iload_n hx hb dX1_add_39 rfl (lv_at hl 3 rfl) ?_
    refine g_iast hx hb hK.1 hP hD hS 3 0 rfl rfl (i := k) (by omega) (by decide) dX1_add_40 (fun H locs hP hD hS => ?_)
    have hP : va_P G.1 vwCl (wHe b G.2.1 (u.size, upd u.ats k p, upd u.beh k n, upd u.the k th)) H := hP
    have hD : va_D A (wHe b G.2.1 (u.size, upd u.ats k p, upd u.beh k n, upd u.the k th)) := hD
    refine lv_aload_n hx hb dX1_add_41 rfl (lv_at hl 0 rfl) ?_
    refine lv_dup hx hb dX1_add_42 rfl ?_
    refine va_get (D := G.1) (ci := 1) (v := .int u.size) (C := RX1) (T := TX1) (N := 4) hx hb hts i_X1_add_X1 hown hK.1 hP 0 rfl rfl 0 (by decide) f21 (fun _ h9 => h9) rfl dX1_add_43 ?_
    refine lv_iconst (v := 1) hx hb dX1_add_46 (by decide) ?_
    refine lv_iadd hx hb dX1_add_47 ?_
    refine g_top (y := nI (k + 1)) (by rw [hk]; exact nI_1 k) ?_
    refine va_put (D := G.1) (ci := 1) (v := .int (nI (k + 1))) (ty := .int) (C := RX1) (T := TX1) (N := 4) hx hb hts i_X1_add_X1 tyX1 tyX1_ok nmX1 hown hK.1 hP hD hS 0 rfl rfl 0 (by decide) f21 (fun _ h9 => h9) rfl (by decide +kernel) rfl rfl (Nat.le_of_ble_eq_true rfl) dX1_add_48 (fun H locs hP hD hS => ?_)
    have hP : va_P G.1 vwCl (wHe b G.2.1 (nI (k + 1), upd u.ats k p, upd u.beh k n, upd u.the k th)) H := hP
    have hD : va_D A (wHe b G.2.1 (nI (k + 1), upd u.ats k p, upd u.beh k n, upd u.the k th)) := hD
    refine lv_iconst (v := 1) hx hb dX1_add_51 (by decide) ?_
    have hP : va_P G.1 vwCl (wHe b G.2.1 (heAdd u k p n th)) H := by
      rw [heAdd]
      (first | rw [if_pos c_1] | rw [if_neg c_1])
      exact hP
    exact g_wz hx hb hr hlocks hAe hP hS dX1_add_52 (by simp [bI, c_1])
  · skip
    refine lv_iconst (v := 0) hx hb dX1_add_9 (by decide) ?_
    have hP : va_P G.1 vwCl (wHe b G.2.1 (heAdd u k p n th)) sz.heap := by
      rw [heAdd]
      (first | rw [if_pos c_1] | rw [if_neg c_1])
      exact hP
    exact g_wz hx hb hr hlocks hAe hP hS dX1_add_10 (by simp [bI, c_1])

theorem h_X1_placeIn : yX1_placeIn.cls ≠ "java/lang/invoke/MethodHandle" ∧ yX1_placeIn.cls ≠ "java/lang/invoke/VarHandle" ∧ (parseMethodDescriptor yX1_placeIn.desc).map (fun d => d.parameters.length) = some 1 := by decide +kernel
set_option maxHeartbeats 4000000 in
set_option maxRecDepth 100000 in
theorem c_X1_placeIn (lz : Launch) (G : gG) (g : Int32) : gRd lz yX1_placeIn wsX1_placeIn 0 G [.int g] ([]) (guP g) := by
  refine g_rd (by decide) rfl (Nat.le_of_ble_eq_true rfl) ?_
  intro pz ez sz mz bz tz cz hx hb hr hml hown hts hlocks hP hK ls hl
  have hl : lv_has ls 1 [(0, .int g)] := hl
  refine lv_iload_n hx hb dX1_placeIn_0 rfl (lv_at hl 0 rfl) ?_
  refine lv_bipush (v := 12) hx hb dX1_placeIn_1 (by decide) ?_
  refine lv_idiv hx hb dX1_placeIn_3 (by decide) ?_
  exact g_ri hx hb hr hlocks dX1_placeIn_4 rfl

theorem h_X1_speedIn : yX1_speedIn.cls ≠ "java/lang/invoke/MethodHandle" ∧ yX1_speedIn.cls ≠ "java/lang/invoke/VarHandle" ∧ (parseMethodDescriptor yX1_speedIn.desc).map (fun d => d.parameters.length) = some 1 := by decide +kernel
set_option maxHeartbeats 4000000 in
set_option maxRecDepth 100000 in
theorem c_X1_speedIn (lz : Launch) (G : gG) (g : Int32) : gRd lz yX1_speedIn wsX1_speedIn 0 G [.int g] ([]) (guS g) := by
  refine g_rd (by decide) rfl (Nat.le_of_ble_eq_true rfl) ?_
  intro pz ez sz mz bz tz cz hx hb hr hml hown hts hlocks hP hK ls hl
  have hl : lv_has ls 1 [(0, .int g)] := hl
  refine lv_iload_n hx hb dX1_speedIn_0 rfl (lv_at hl 0 rfl) ?_
  refine lv_bipush (v := 12) hx hb dX1_speedIn_1 (by decide) ?_
  refine lv_irem hx hb dX1_speedIn_3 (by decide) ?_
  refine lv_iconst (v := 2) hx hb dX1_speedIn_4 (by decide) ?_
  refine lv_idiv hx hb dX1_speedIn_5 (by decide) ?_
  refine lv_iconst (v := 1) hx hb dX1_speedIn_6 (by decide) ?_
  refine lv_iadd hx hb dX1_speedIn_7 ?_
  exact g_ri hx hb hr hlocks dX1_speedIn_8 rfl

theorem h_X1_wayIn : yX1_wayIn.cls ≠ "java/lang/invoke/MethodHandle" ∧ yX1_wayIn.cls ≠ "java/lang/invoke/VarHandle" ∧ (parseMethodDescriptor yX1_wayIn.desc).map (fun d => d.parameters.length) = some 1 := by decide +kernel
set_option maxHeartbeats 4000000 in
set_option maxRecDepth 100000 in
theorem c_X1_wayIn (lz : Launch) (G : gG) (g : Int32) : gRd lz yX1_wayIn wsX1_wayIn 0 G [.int g] ([]) (guW g) := by
  refine g_rd (by decide) rfl (Nat.le_of_ble_eq_true rfl) ?_
  intro pz ez sz mz bz tz cz hx hb hr hml hown hts hlocks hP hK ls hl
  have hl : lv_has ls 1 [(0, .int g)] := hl
  refine lv_iload_n hx hb dX1_wayIn_0 rfl (lv_at hl 0 rfl) ?_
  refine lv_iconst (v := 2) hx hb dX1_wayIn_1 (by decide) ?_
  refine lv_irem hx hb dX1_wayIn_2 (by decide) ?_
  exact g_ri hx hb hr hlocks dX1_wayIn_3 rfl

theorem h_X1_placeBehind : yX1_placeBehind.cls ≠ "java/lang/invoke/MethodHandle" ∧ yX1_placeBehind.cls ≠ "java/lang/invoke/VarHandle" ∧ (parseMethodDescriptor yX1_placeBehind.desc).map (fun d => d.parameters.length) = some 3 := by decide +kernel
set_option maxHeartbeats 4000000 in
set_option maxRecDepth 100000 in
theorem c_X1_placeBehind (lz : Launch) (G : gG) (a : Nat → Nat) (h : HaS) (g n : Int32) : gRd lz yX1_placeBehind wsX1_placeBehind 2 G [.ref (a 0), .int g, .int n] (wHa a G.2.1 h) (guAt h g n) := by
  refine g_rd (by decide) rfl (Nat.le_of_ble_eq_true rfl) ?_
  intro pz ez sz mz bz tz cz hx hb hr hml hown hts hlocks hP hK ls hl
  have hl : lv_has ls 3 [(0, .ref (a 0)), (1, .int g), (2, .int n)] := hl
  refine lv_aload_n hx hb dX1_placeBehind_0 rfl (lv_at hl 0 rfl) ?_
  refine lv_iload_n hx hb dX1_placeBehind_1 rfl (lv_at hl 1 rfl) ?_
  refine g_rdS (As := [.int g]) (rest := [.ref (a 0)]) (nL := 3) hx hb hml hown hts (c_X1_placeIn lz G g) gX1_placeBehind_X1_placeIn rfl h_X1_placeIn ⟨Nat.le_of_ble_eq_true rfl, Nat.le_of_ble_eq_true rfl⟩ hK gP_nil rfl hl.1 rfl (Nat.le_of_ble_eq_true rfl) ⟨Nat.le_refl _, Nat.le_refl _⟩ dX1_placeBehind_2 ?_
  refine lv_iload_n hx hb dX1_placeBehind_5 rfl (lv_at hl 1 rfl) ?_
  refine g_rdS (As := [.int g]) (rest := [.int (guP g), .ref (a 0)]) (nL := 3) hx hb hml hown hts (c_X1_wayIn lz G g) gX1_placeBehind_X1_wayIn rfl h_X1_wayIn ⟨Nat.le_of_ble_eq_true rfl, Nat.le_of_ble_eq_true rfl⟩ hK gP_nil rfl hl.1 rfl (Nat.le_of_ble_eq_true rfl) ⟨Nat.le_refl _, Nat.le_refl _⟩ dX1_placeBehind_6 ?_
  refine lv_iload_n hx hb dX1_placeBehind_9 rfl (lv_at hl 1 rfl) ?_
  refine g_rdS (As := [.int g]) (rest := [.int (guW g), .int (guP g), .ref (a 0)]) (nL := 3) hx hb hml hown hts (c_X1_speedIn lz G g) gX1_placeBehind_X1_speedIn rfl h_X1_speedIn ⟨Nat.le_of_ble_eq_true rfl, Nat.le_of_ble_eq_true rfl⟩ hK gP_nil rfl hl.1 rfl (Nat.le_of_ble_eq_true rfl) ⟨Nat.le_refl _, Nat.le_refl _⟩ dX1_placeBehind_10 ?_
  refine lv_iload_n hx hb dX1_placeBehind_13 rfl (lv_at hl 2 rfl) ?_
  refine lv_imul hx hb dX1_placeBehind_14 ?_
  refine g_rdV (As := [.int (guP g), .int (guW g), .int ((guS g) * n)]) (rest := []) (nL := 3) hx hb hml hown hts (c_X0_reach lz G a h (guP g) (guW g) ((guS g) * n)) gX1_placeBehind_X0_reach rfl h_X0_reach ⟨Nat.le_of_ble_eq_true rfl, Nat.le_of_ble_eq_true rfl⟩ hK hP (ci := 0) rfl rfl rfl rfl hl.1 rfl (Nat.le_of_ble_eq_true rfl) ⟨Nat.le_refl _, Nat.le_refl _⟩ dX1_placeBehind_15 ?_
  exact g_ri hx hb hr hlocks dX1_placeBehind_18 rfl

theorem i_X1_fits_X1 : ∀ w ∈ wsX10, w ∈ wsX1_fits := by decide +kernel
theorem h_X1_fits : yX1_fits.cls = RX1 ∧ yX1_fits.cls ≠ "java/lang/invoke/MethodHandle" ∧ yX1_fits.cls ≠ "java/lang/invoke/VarHandle" ∧ (parseMethodDescriptor yX1_fits.desc).map (fun d => d.parameters.length) = some 2 := by decide +kernel
set_option maxHeartbeats 4000000 in
set_option maxRecDepth 100000 in
theorem c_X1_fits (lz : Launch) (G : gG) (a b : Nat → Nat) (h : HaS) (u : HeS) (k : Nat) (g : Int32) (hk : u.size = nI k) (hk6 : k ≤ 6) : gRd lz yX1_fits wsX1_fits 3 G [.ref (b 0), .ref (a 0), .int g] (wHe b G.2.1 u ++ wHa a G.2.1 h) (bI (guFit h u k g)) := by
  refine g_rd (by decide) rfl (Nat.le_of_ble_eq_true rfl) ?_
  intro pz ez sz mz bz tz cz hx hb hr hml hown hts hlocks hP hK ls hl
  have hl : lv_has ls 5 [(0, .ref (b 0)), (1, .ref (a 0)), (2, .int g)] := hl
  have f15 := hts (.fieldLink RX1 15 "WhisperRing$Hearsay" "behind" "[I") (by decide +kernel)
  have f18 := hts (.fieldLink RX1 18 "WhisperRing$Hearsay" "there" "[I") (by decide +kernel)
  have f21 := hts (.fieldLink RX1 21 "WhisperRing$Hearsay" "size" "I") (by decide +kernel)
  have f9 := hts (.fieldLink RX1 9 "WhisperRing$Hearsay" "at" "[I") (by decide +kernel)
  refine lv_iconst (v := 0) hx hb dX1_fits_0 (by decide) ?_
  refine lv_istore_n (lv' := [(3, .int 0), (0, .ref (b 0)), (1, .ref (a 0)), (2, .int g)]) hx hb dX1_fits_1 rfl hl (by decide) rfl (fun ls hl => ?_)
  have lp_2 : ∀ (fu_2 : Nat) (i : Nat), (i ≤ k) → (allOf (fun i => decide (guAt h g (u.beh i) = u.ats i) == decide (u.the i = 1)) i = true) → k - i < fu_2 → ∀ ls : Array Slot, lv_has ls 5 [(0, .ref (b 0)), (1, .ref (a 0)), (2, .int g), (3, .int (nI i))] → W pz lz ez (gRm 3) sz mz ([.ref (b 0), .ref (a 0), .int g] : List Value).toArray bz tz cz sz.heap [] 0 0 (MQ bz (vp_Si (fun x => x = bI (guFit h u k g))) ([.ref (b 0), .ref (a 0), .int g] : List Value).toArray sz 0 0 (fun _ => False)) (F0 mz 2 ls []) := by
    intro fu_2
    induction fu_2 with
    | zero =>
      intro i hi he hf_2
      exact absurd hf_2 (Nat.not_lt_zero _)
    | succ fu_2 ih_2 =>
      intro i hi he hf_2 ls hl
      refine lv_iload_n hx hb dX1_fits_2 rfl (lv_at hl 3 rfl) ?_
      refine lv_aload_n hx hb dX1_fits_3 rfl (lv_at hl 0 rfl) ?_
      refine va_get (D := G.1) (ci := 1) (v := .int u.size) (C := RX1) (T := TX1) (N := 4) hx hb hts i_X1_fits_X1 hown hK.1 hP 0 rfl rfl 0 (by decide) f21 (fun _ h9 => h9) rfl dX1_fits_4 ?_
      refine lv_icmp_ge (tgt := 65) hx hb dX1_fits_7 (by decide) (fun c_1 => ?_) (fun c_1 => ?_)
      · skip
        have c_1 := gl_le c_1
        have hx2 : k ≤ i := gl_ex hk (by omega) (by omega) c_1
        refine lv_iconst (v := 1) hx hb dX1_fits_65 (by decide) ?_
        exact g_rz hx hb hr hlocks dX1_fits_66 (by rw [guFit, ← show i = k by omega, he]; rfl)
      · skip
        have c_1 := gl_nle c_1
        have hlt : i < k := gl_in hk (by omega) (by omega) c_1
        refine lv_aload_n hx hb dX1_fits_10 rfl (lv_at hl 1 rfl) ?_
        refine lv_iload_n hx hb dX1_fits_11 rfl (lv_at hl 2 rfl) ?_
        refine lv_aload_n hx hb dX1_fits_12 rfl (lv_at hl 0 rfl) ?_
        refine va_get (D := G.1) (ci := 1) (v := .ref (b 2)) (C := RX1) (T := TX1) (N := 4) hx hb hts i_X1_fits_X1 hown hK.1 hP 0 rfl rfl 2 (by decide) f15 (fun _ h9 => h9) rfl dX1_fits_13 ?_
        refine lv_iload_n hx hb dX1_fits_16 rfl (lv_at hl 3 rfl) ?_
        refine g_iald hx hb hK.1 hP 2 0 rfl rfl (i := i) (by omega) (by decide) dX1_fits_17 ?_
        refine g_rdS (As := [.ref (a 0), .int g, .int (u.beh i)]) (rest := []) (nL := 5) hx hb hml hown hts (c_X1_placeBehind lz G a h g (u.beh i)) gX1_fits_X1_placeBehind rfl h_X1_placeBehind ⟨Nat.le_of_ble_eq_true rfl, Nat.le_of_ble_eq_true rfl⟩ hK (hP.sub [4, 5, 6, 7, 8, 9, 10, 11, 12, 13] rfl) rfl hl.1 rfl (Nat.le_of_ble_eq_true rfl) ⟨Nat.le_refl _, Nat.le_refl _⟩ dX1_fits_18 ?_
        refine lv_aload_n hx hb dX1_fits_21 rfl (lv_at hl 0 rfl) ?_
        refine va_get (D := G.1) (ci := 1) (v := .ref (b 1)) (C := RX1) (T := TX1) (N := 4) hx hb hts i_X1_fits_X1 hown hK.1 hP 0 rfl rfl 1 (by decide) f9 (fun _ h9 => h9) rfl dX1_fits_22 ?_
        refine lv_iload_n hx hb dX1_fits_25 rfl (lv_at hl 3 rfl) ?_
        refine g_iald hx hb hK.1 hP 1 0 rfl rfl (i := i) (by omega) (by decide) dX1_fits_26 ?_
        refine lv_icmp_ne (tgt := 34) hx hb dX1_fits_27 (by decide) (fun c_2 => ?_) (fun c_2 => ?_)
        · skip
          refine lv_iconst (v := 0) hx hb dX1_fits_34 (by decide) ?_
          refine lv_istore (lv' := [(4, .int 0), (0, .ref (b 0)), (1, .ref (a 0)), (2, .int g), (3, .int (nI i))]) hx hb dX1_fits_35 hl (by decide) rfl (fun ls hl => ?_)
          refine lv_iload hx hb dX1_fits_37 (lv_at hl 0 rfl) ?_
          refine lv_aload_n hx hb dX1_fits_39 rfl (lv_at hl 1 rfl) ?_
          refine va_get (D := G.1) (ci := 1) (v := .ref (b 3)) (C := RX1) (T := TX1) (N := 4) hx hb hts i_X1_fits_X1 hown hK.1 hP 0 rfl rfl 3 (by decide) f18 (fun _ h9 => h9) rfl dX1_fits_40 ?_
          refine lv_iload_n hx hb dX1_fits_43 rfl (lv_at hl 4 rfl) ?_
          refine g_iald hx hb hK.1 hP 3 0 rfl rfl (i := i) (by omega) (by decide) dX1_fits_44 ?_
          refine lv_iconst (v := 1) hx hb dX1_fits_45 (by decide) ?_
          refine lv_icmp_ne (tgt := 53) hx hb dX1_fits_46 (by decide) (fun c_3 => ?_) (fun c_3 => ?_)
          · skip
            refine lv_iconst (v := 0) hx hb dX1_fits_53 (by decide) ?_
            refine lv_icmp_eq (tgt := 59) hx hb dX1_fits_54 (by decide) (fun c_4 => ?_) (fun c_4 => False.elim (by revert c_4; decide))
            refine lv_iinc (v := nI (i + 1)) (lv' := [(3, .int (nI (i + 1))), (4, .int 0), (0, .ref (b 0)), (1, .ref (a 0)), (2, .int g)]) hx hb dX1_fits_59 hl (k := 4) rfl (nI_1 i) (by decide) rfl (fun ls hl => ?_)
            refine lv_goto (tgt := 2) hx hb dX1_fits_62 (by decide) ?_
            exact ih_2 (i + 1) hlt (aO_y he (by simp [c_2, c_3])) (by omega) ls (lv_sub hl [2, 3, 4, 0] rfl)
          · skip
            refine lv_iconst (v := 1) hx hb dX1_fits_49 (by decide) ?_
            refine lv_goto (tgt := 54) hx hb dX1_fits_50 (by decide) ?_
            refine lv_icmp_eq (tgt := 59) hx hb dX1_fits_54 (by decide) (fun c_5 => False.elim (by revert c_5; decide)) (fun c_5 => ?_)
            refine lv_iconst (v := 0) hx hb dX1_fits_57 (by decide) ?_
            exact g_rz hx hb hr hlocks dX1_fits_58 (by rw [guFit, aO_n hlt (by simp [c_2, c_3])]; rfl)
        · skip
          refine lv_iconst (v := 1) hx hb dX1_fits_30 (by decide) ?_
          refine lv_goto (tgt := 35) hx hb dX1_fits_31 (by decide) ?_
          refine lv_istore (lv' := [(4, .int 1), (0, .ref (b 0)), (1, .ref (a 0)), (2, .int g), (3, .int (nI i))]) hx hb dX1_fits_35 hl (by decide) rfl (fun ls hl => ?_)
          refine lv_iload hx hb dX1_fits_37 (lv_at hl 0 rfl) ?_
          refine lv_aload_n hx hb dX1_fits_39 rfl (lv_at hl 1 rfl) ?_
          refine va_get (D := G.1) (ci := 1) (v := .ref (b 3)) (C := RX1) (T := TX1) (N := 4) hx hb hts i_X1_fits_X1 hown hK.1 hP 0 rfl rfl 3 (by decide) f18 (fun _ h9 => h9) rfl dX1_fits_40 ?_
          refine lv_iload_n hx hb dX1_fits_43 rfl (lv_at hl 4 rfl) ?_
          refine g_iald hx hb hK.1 hP 3 0 rfl rfl (i := i) (by omega) (by decide) dX1_fits_44 ?_
          refine lv_iconst (v := 1) hx hb dX1_fits_45 (by decide) ?_
          refine lv_icmp_ne (tgt := 53) hx hb dX1_fits_46 (by decide) (fun c_6 => ?_) (fun c_6 => ?_)
          · skip
            refine lv_iconst (v := 0) hx hb dX1_fits_53 (by decide) ?_
            refine lv_icmp_eq (tgt := 59) hx hb dX1_fits_54 (by decide) (fun c_7 => False.elim (by revert c_7; decide)) (fun c_7 => ?_)
            refine lv_iconst (v := 0) hx hb dX1_fits_57 (by decide) ?_
            exact g_rz hx hb hr hlocks dX1_fits_58 (by rw [guFit, aO_n hlt (by simp [c_2, c_6])]; rfl)
          · skip
            refine lv_iconst (v := 1) hx hb dX1_fits_49 (by decide) ?_
            refine lv_goto (tgt := 54) hx hb dX1_fits_50 (by decide) ?_
            refine lv_icmp_eq (tgt := 59) hx hb dX1_fits_54 (by decide) (fun c_8 => ?_) (fun c_8 => False.elim (by revert c_8; decide))
            refine lv_iinc (v := nI (i + 1)) (lv' := [(3, .int (nI (i + 1))), (4, .int 1), (0, .ref (b 0)), (1, .ref (a 0)), (2, .int g)]) hx hb dX1_fits_59 hl (k := 4) rfl (nI_1 i) (by decide) rfl (fun ls hl => ?_)
            refine lv_goto (tgt := 2) hx hb dX1_fits_62 (by decide) ?_
            exact ih_2 (i + 1) hlt (aO_y he (by simp [c_2, c_6])) (by omega) ls (lv_sub hl [2, 3, 4, 0] rfl)
  exact lp_2 ((k - 0) + 1) 0 (Nat.zero_le _) rfl (Nat.lt_succ_self _) ls (lv_sub hl [1, 2, 3, 0] rfl)
