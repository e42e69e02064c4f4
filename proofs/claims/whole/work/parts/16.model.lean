theorem cpy_0 (f g : Nat → Int32) (i j : Nat) : va_cpy f g i j 0 = g := by
  funext k
  rw [pk_cpy_out (by omega)]
theorem cpy_s (f g : Nat → Int32) (i j k : Nat) : upd (va_cpy f g i j k) (j + k) (f (i + k)) = va_cpy f g i j (k + 1) := by
  funext z
  by_cases h : z = j + k
  · subst h
    rw [pk_us, pk_cpy_in (by omega) (by omega), Nat.add_sub_cancel_left]
  · rw [pk_un h]
    by_cases h2 : j ≤ z ∧ z < j + k
    · rw [pk_cpy_in h2.1 h2.2, pk_cpy_in h2.1 (by omega)]
    · rw [pk_cpy_out (by omega), pk_cpy_out (by omega)]
theorem cpy_rd {f v : Nat → Int32} {i j k : Nat} (h : j ≤ i) (hv : v = va_cpy f f i j k) : v (i + k) = f (i + k) := by rw [hv, pk_cpy_out (by omega)]
def dNb (m : MdS) (k : Nat) : Nat → Int32 := if m.undos = 10 then va_cpy m.st (va_cpy m.book m.book 50 0 450) 0 (50 * 9) 50 else va_cpy m.st m.book 0 (50 * k) 50
def dNu (m : MdS) (k : Nat) : Int32 := if m.undos = 10 then nI (9 + 1) else nI (k + 1)
def yTiSt (m : MdS) (x : Int32) : Nat → Int32 := if wIn x 1 99 then (if 9999 < m.st 0 + x then m.st else upd m.st 0 (m.st 0 + x)) else m.st
def yTiB (m : MdS) (k : Nat) (x : Int32) : Nat → Int32 := if wIn x 1 99 then (if 9999 < m.st 0 + x then m.book else dNb m k) else m.book
def yTiU (m : MdS) (k : Nat) (x : Int32) : Int32 := if wIn x 1 99 then (if 9999 < m.st 0 + x then m.undos else dNu m k) else m.undos
def yTiR (m : MdS) (n k : Nat) (x : Int32) : Int32 := if wIn x 1 99 then (if 9999 < m.st 0 + x then -2 else bitsK (dAl (m.text, m.len, m.pl, m.loss, m.nich, upd m.st 0 (m.st 0 + x), dNb m k, dNu m k, m.imgs, m.kept, m.heard, m.hm, m.trail, m.pos, m.wrong, m.items, m.rp, m.rl, m.sl, m.rn, m.read) n)) else -1
def sA1 (f : Nat → Int32) (n : Nat) (p : Int32) : Nat → Int32 := upd f (2 + n) p
def sA2 (f : Nat → Int32) (n : Nat) (p sp : Int32) : Nat → Int32 := upd (sA1 f n p) (10 + n) sp
def sA3 (f : Nat → Int32) (n : Nat) (p sp wa : Int32) : Nat → Int32 := upd (sA2 f n p sp) (18 + n) wa
def sA4 (f : Nat → Int32) (n : Nat) (p sp wa lo : Int32) : Nat → Int32 := upd (sA3 f n p sp wa) (26 + n) lo
def sA5 (f : Nat → Int32) (n : Nat) (p sp wa lo : Int32) : Nat → Int32 := upd (sA4 f n p sp wa lo) (34 + n) (sA4 f n p sp wa lo 0)
def sA6 (f : Nat → Int32) (n : Nat) (p sp wa lo : Int32) : Nat → Int32 := upd (sA5 f n p sp wa lo) (42 + n) 0
def sA7 (f : Nat → Int32) (n : Nat) (p sp wa lo : Int32) : Nat → Int32 := upd (sA6 f n p sp wa lo) 1 (sA6 f n p sp wa lo 1 + 1)
def ySaI {α : Type} (m : MdS) (p sp wa lo : Int32) (u v : α) : α := if wIn p 0 (m.pl - 1) then (if wIn sp 1 6 then (if wIn wa 0 1 then (if wIn lo 1 30 then (if m.st 1 = 8 then u else v) else u) else u) else u) else u
def ySaSt (m : MdS) (n : Nat) (p sp wa lo : Int32) : Nat → Int32 := if wIn p 0 (m.pl - 1) then (if wIn sp 1 6 then (if wIn wa 0 1 then (if wIn lo 1 30 then (if m.st 1 = 8 then m.st else sA7 m.st n p sp wa lo) else m.st) else m.st) else m.st) else m.st
def ySaB (m : MdS) (k : Nat) (p sp wa lo : Int32) : Nat → Int32 := if wIn p 0 (m.pl - 1) then (if wIn sp 1 6 then (if wIn wa 0 1 then (if wIn lo 1 30 then (if m.st 1 = 8 then m.book else dNb m k) else m.book) else m.book) else m.book) else m.book
def ySaU (m : MdS) (k : Nat) (p sp wa lo : Int32) : Int32 := if wIn p 0 (m.pl - 1) then (if wIn sp 1 6 then (if wIn wa 0 1 then (if wIn lo 1 30 then (if m.st 1 = 8 then m.undos else dNu m k) else m.undos) else m.undos) else m.undos) else m.undos
def ySaR (m : MdS) (p sp wa lo : Int32) : Int32 := if wIn p 0 (m.pl - 1) then (if wIn sp 1 6 then (if wIn wa 0 1 then (if wIn lo 1 30 then (if m.st 1 = 8 then -3 else m.st 1) else -1) else -1) else -1) else -1
def yHuSt (m : MdS) (s : Int32) : Nat → Int32 := if wIn s 0 (m.st 1 - 1) then (if dSt m s.toNatClampNeg 0 = 0 then m.st else upd m.st (42 + s.toNatClampNeg) 1) else m.st
def yHuB (m : MdS) (k : Nat) (s : Int32) : Nat → Int32 := if wIn s 0 (m.st 1 - 1) then (if dSt m s.toNatClampNeg 0 = 0 then m.book else dNb m k) else m.book
def yHuU (m : MdS) (k : Nat) (s : Int32) : Int32 := if wIn s 0 (m.st 1 - 1) then (if dSt m s.toNatClampNeg 0 = 0 then m.undos else dNu m k) else m.undos
def yHuR (m : MdS) (s : Int32) : Int32 := if wIn s 0 (m.st 1 - 1) then (if dSt m s.toNatClampNeg 0 = 0 then -2 else dSt m s.toNatClampNeg 0) else -1
def yUnSt (m : MdS) (k : Nat) : Nat → Int32 := if m.undos = 0 then m.st else va_cpy m.book m.st (50 * (k - 1)) 0 50
def yUnU (m : MdS) (k : Nat) : Int32 := if m.undos = 0 then m.undos else nI (k - 1)
def dTh (m : MdS) (n N : Nat) (b : Bool) : Nat := cntOf (fun p => !decide (dSn m n (nI p) 0 = 0) && (!b || decide (dCl m n (dSn m n (nI p) 0) 0 = -9))) N
def yNoR (m : MdS) (n N : Nat) (what : Int32) : Int32 := if what = 0 then m.st 0 else if what = 1 then dAl m n else if what = 2 then dLo m n (dAl m n) 0 else if what = 3 then nI (dTh m n N false) else if what = 4 then nI (dTh m n N true) else -1
theorem h_X5_bring : yX5_bring.cls ≠ "java/lang/invoke/MethodHandle" ∧ yX5_bring.cls ≠ "java/lang/invoke/VarHandle" ∧ (parseMethodDescriptor yX5_bring.desc).map (fun d => d.parameters.length) = some 5 := by decide +kernel
set_option maxHeartbeats 4000000 in
set_option maxRecDepth 100000 in
theorem c_X5_bring (lz : Launch) (G : gG) (p q n0 n1 i j n : Nat) (f g : Nat → Int32) (h0 : i + n ≤ n0) (h1 : j + n ≤ n1) (hb0 : n0 < 2 ^ 31) (hb1 : n1 < 2 ^ 31) : gWr lz yX5_bring wsX5_bring 0 G [.ref p, .int (nI i), .ref q, .int (nI j), .int (nI n)] (wAr p G.2.1 n0 f ++ wAr q G.2.1 n1 g) (wAr p G.2.1 n0 f ++ wAr q G.2.1 n1 (va_cpy f g i j n)) none := by
  refine g_wr (by decide) rfl (Nat.le_of_ble_eq_true rfl) ?_
  intro pz ez sz mz bz tz cz hx hb hr hml hown hts hlocks hK A hAe hP hD hS ls hl
  have hl : lv_has ls 6 [(0, .ref p), (1, .int (nI i)), (2, .ref q), (3, .int (nI j)), (4, .int (nI n))] := hl
  refine lv_iconst (v := 0) hx hb dX5_bring_0 (by decide) ?_
  refine lv_istore (lv' := [(5, .int 0), (0, .ref p), (1, .int (nI i)), (2, .ref q), (3, .int (nI j)), (4, .int (nI n))]) hx hb dX5_bring_1 hl (by decide) rfl (fun ls hl => ?_)
  have lp_3 : ∀ (fu_3 : Nat) (k : Nat) (v : Nat → Int32), (k ≤ n) → (v = va_cpy f g i j k) → n - k < fu_3 → ∀ (H : Heap) (locs : List Loc), va_P G.1 vwCl (wAr p G.2.1 n0 f ++ wAr q G.2.1 n1 v) H → va_D A (wAr p G.2.1 n0 f ++ wAr q G.2.1 n1 v) → va_S A sz.heap H locs → ∀ ls : Array Slot, lv_has ls 6 [(0, .ref p), (1, .int (nI i)), (2, .ref q), (3, .int (nI j)), (4, .int (nI n)), (5, .int (nI k))] → W pz lz ez (gRm 0) sz mz ([.ref p, .int (nI i), .ref q, .int (nI j), .int (nI n)] : List Value).toArray bz tz cz H locs 0 0 (MQ bz (gQ G (wAr p G.2.1 n0 f ++ wAr q G.2.1 n1 g) (wAr p G.2.1 n0 f ++ wAr q G.2.1 n1 (va_cpy f g i j n)) none) ([.ref p, .int (nI i), .ref q, .int (nI j), .int (nI n)] : List Value).toArray sz 0 0 (gAd (wAr p G.2.1 n0 f ++ wAr q G.2.1 n1 g))) (F0 mz 3 ls []) := by
    intro fu_3
    induction fu_3 with
    | zero =>
      intro k v hi hv hf_3
      exact absurd hf_3 (Nat.not_lt_zero _)
    | succ fu_3 ih_3 =>
      intro k v hi hv hf_3 H locs hP hD hS ls hl
      refine lv_iload hx hb dX5_bring_3 (lv_at hl 5 rfl) ?_
      refine lv_iload hx hb dX5_bring_5 (lv_at hl 4 rfl) ?_
      refine lv_icmp_ge (tgt := 28) hx hb dX5_bring_7 (by decide) (fun c_1 => ?_) (fun c_1 => ?_)
      · skip
        have c_1 := gl_le c_1
        have hx2 : n ≤ k := gl_ex rfl (by omega) (by omega) c_1
        have hP : va_P G.1 vwCl (wAr p G.2.1 n0 f ++ wAr q G.2.1 n1 (va_cpy f g i j n)) H := by
          rw [hv, show k = n by omega] at hP
          exact hP
        exact g_wv hx hb hr hlocks hAe hP hS dX5_bring_28
      · skip
        have c_1 := gl_nle c_1
        have hlt : k < n := gl_in rfl (by omega) (by omega) c_1
        refine lv_aload_n hx hb dX5_bring_10 rfl (lv_at hl 2 rfl) ?_
        refine lv_iload_n hx hb dX5_bring_11 rfl (lv_at hl 3 rfl) ?_
        refine lv_iload hx hb dX5_bring_12 (lv_at hl 5 rfl) ?_
        refine lv_iadd hx hb dX5_bring_14 ?_
        refine g_top (y := nI (j + k)) (nI_add j k) ?_
        refine lv_aload_n hx hb dX5_bring_15 rfl (lv_at hl 0 rfl) ?_
        refine lv_iload_n hx hb dX5_bring_16 rfl (lv_at hl 1 rfl) ?_
        refine lv_iload hx hb dX5_bring_17 (lv_at hl 5 rfl) ?_
        refine lv_iadd hx hb dX5_bring_19 ?_
        refine g_top (y := nI (i + k)) (nI_add i k) ?_
        refine g_iald hx hb hK.1 hP 0 0 rfl rfl (i := (i + k)) (by omega) (by omega) dX5_bring_20 ?_
        refine g_iast hx hb hK.1 hP hD hS 1 0 rfl rfl (i := (j + k)) (by omega) (by omega) dX5_bring_21 (fun H locs hP hD hS => ?_)
        have hP : va_P G.1 vwCl (wAr p G.2.1 n0 f ++ wAr q G.2.1 n1 (upd v (j + k) (f (i + k)))) H := hP
        have hD : va_D A (wAr p G.2.1 n0 f ++ wAr q G.2.1 n1 (upd v (j + k) (f (i + k)))) := hD
        refine lv_iinc (v := nI (k + 1)) (lv' := [(5, .int (nI (k + 1))), (0, .ref p), (1, .int (nI i)), (2, .ref q), (3, .int (nI j)), (4, .int (nI n))]) hx hb dX5_bring_22 hl (k := 5) rfl (nI_1 k) (by decide) rfl (fun ls hl => ?_)
        refine lv_goto (tgt := 3) hx hb dX5_bring_25 (by decide) ?_
        exact ih_3 (k + 1) (upd v (j + k) (f (i + k))) hlt (by rw [hv]; exact cpy_s _ _ _ _ _) (by omega) _ _ hP hD hS ls (lv_sub hl [1, 2, 3, 4, 5, 0] rfl)
  exact lp_3 ((n - 0) + 1) 0 g (Nat.zero_le _) ((cpy_0 _ _ _ _).symm) (Nat.lt_succ_self _) _ _ hP hD hS ls (lv_sub hl [1, 2, 3, 4, 5, 0] rfl)

set_option maxHeartbeats 4000000 in
set_option maxRecDepth 100000 in
theorem cB_X5_bring (lz : Launch) (G : gG) (p n0 i j n : Nat) (f : Nat → Int32) (h0 : i + n ≤ n0) (h1 : j + n ≤ n0) (hb0 : n0 < 2 ^ 31) (hij : j ≤ i) : gWr lz yX5_bring wsX5_bring 0 G [.ref p, .int (nI i), .ref p, .int (nI j), .int (nI n)] (wAr p G.2.1 n0 f) (wAr p G.2.1 n0 (va_cpy f f i j n)) none := by
  refine g_wr (by decide) rfl (Nat.le_of_ble_eq_true rfl) ?_
  intro pz ez sz mz bz tz cz hx hb hr hml hown hts hlocks hK A hAe hP hD hS ls hl
  have hl : lv_has ls 6 [(0, .ref p), (1, .int (nI i)), (2, .ref p), (3, .int (nI j)), (4, .int (nI n))] := hl
  refine lv_iconst (v := 0) hx hb dX5_bring_0 (by decide) ?_
  refine lv_istore (lv' := [(5, .int 0), (0, .ref p), (1, .int (nI i)), (2, .ref p), (3, .int (nI j)), (4, .int (nI n))]) hx hb dX5_bring_1 hl (by decide) rfl (fun ls hl => ?_)
  have lp_3 : ∀ (fu_3 : Nat) (k : Nat) (v : Nat → Int32), (k ≤ n) → (v = va_cpy f f i j k) → n - k < fu_3 → ∀ (H : Heap) (locs : List Loc), va_P G.1 vwCl (wAr p G.2.1 n0 v) H → va_D A (wAr p G.2.1 n0 v) → va_S A sz.heap H locs → ∀ ls : Array Slot, lv_has ls 6 [(0, .ref p), (1, .int (nI i)), (2, .ref p), (3, .int (nI j)), (4, .int (nI n)), (5, .int (nI k))] → W pz lz ez (gRm 0) sz mz ([.ref p, .int (nI i), .ref p, .int (nI j), .int (nI n)] : List Value).toArray bz tz cz H locs 0 0 (MQ bz (gQ G (wAr p G.2.1 n0 f) (wAr p G.2.1 n0 (va_cpy f f i j n)) none) ([.ref p, .int (nI i), .ref p, .int (nI j), .int (nI n)] : List Value).toArray sz 0 0 (gAd (wAr p G.2.1 n0 f))) (F0 mz 3 ls []) := by
    intro fu_3
    induction fu_3 with
    | zero =>
      intro k v hi hv hf_3
      exact absurd hf_3 (Nat.not_lt_zero _)
    | succ fu_3 ih_3 =>
      intro k v hi hv hf_3 H locs hP hD hS ls hl
      refine lv_iload hx hb dX5_bring_3 (lv_at hl 5 rfl) ?_
      refine lv_iload hx hb dX5_bring_5 (lv_at hl 4 rfl) ?_
      refine lv_icmp_ge (tgt := 28) hx hb dX5_bring_7 (by decide) (fun c_1 => ?_) (fun c_1 => ?_)
      · skip
        have c_1 := gl_le c_1
        have hx2 : n ≤ k := gl_ex rfl (by omega) (by omega) c_1
        have hP : va_P G.1 vwCl (wAr p G.2.1 n0 (va_cpy f f i j n)) H := by
          rw [hv, show k = n by omega] at hP
          exact hP
        exact g_wv hx hb hr hlocks hAe hP hS dX5_bring_28
      · skip
        have c_1 := gl_nle c_1
        have hlt : k < n := gl_in rfl (by omega) (by omega) c_1
        refine lv_aload_n hx hb dX5_bring_10 rfl (lv_at hl 2 rfl) ?_
        refine lv_iload_n hx hb dX5_bring_11 rfl (lv_at hl 3 rfl) ?_
        refine lv_iload hx hb dX5_bring_12 (lv_at hl 5 rfl) ?_
        refine lv_iadd hx hb dX5_bring_14 ?_
        refine g_top (y := nI (j + k)) (nI_add j k) ?_
        refine lv_aload_n hx hb dX5_bring_15 rfl (lv_at hl 0 rfl) ?_
        refine lv_iload_n hx hb dX5_bring_16 rfl (lv_at hl 1 rfl) ?_
        refine lv_iload hx hb dX5_bring_17 (lv_at hl 5 rfl) ?_
        refine lv_iadd hx hb dX5_bring_19 ?_
        refine g_top (y := nI (i + k)) (nI_add i k) ?_
        refine g_iald hx hb hK.1 hP 0 0 rfl rfl (i := (i + k)) (by omega) (by omega) dX5_bring_20 ?_
        refine g_iast hx hb hK.1 hP hD hS 0 0 rfl rfl (i := (j + k)) (by omega) (by omega) dX5_bring_21 (fun H locs hP hD hS => ?_)
        have hP : va_P G.1 vwCl (wAr p G.2.1 n0 (upd v (j + k) (v (i + k)))) H := hP
        have hD : va_D A (wAr p G.2.1 n0 (upd v (j + k) (v (i + k)))) := hD
        refine lv_iinc (v := nI (k + 1)) (lv' := [(5, .int (nI (k + 1))), (0, .ref p), (1, .int (nI i)), (2, .ref p), (3, .int (nI j)), (4, .int (nI n))]) hx hb dX5_bring_22 hl (k := 5) rfl (nI_1 k) (by decide) rfl (fun ls hl => ?_)
        refine lv_goto (tgt := 3) hx hb dX5_bring_25 (by decide) ?_
        exact ih_3 (k + 1) (upd v (j + k) (v (i + k))) hlt (by rw [cpy_rd hij hv, hv]; exact cpy_s _ _ _ _ _) (by omega) _ _ hP hD hS ls (lv_sub hl [1, 2, 3, 4, 5, 0] rfl)
  exact lp_3 ((n - 0) + 1) 0 f (Nat.zero_le _) ((cpy_0 _ _ _ _).symm) (Nat.lt_succ_self _) _ _ hP hD hS ls (lv_sub hl [1, 2, 3, 4, 5, 0] rfl)

theorem i_X5_notes_X5 : ∀ w ∈ wsX50, w ∈ wsX5_notes := by decide +kernel
theorem h_X5_notes : yX5_notes.cls = RX5 ∧ yX5_notes.cls ≠ "java/lang/invoke/MethodHandle" ∧ yX5_notes.cls ≠ "java/lang/invoke/VarHandle" ∧ (parseMethodDescriptor yX5_notes.desc).map (fun d => d.parameters.length) = some 0 := by decide +kernel
set_option maxHeartbeats 4000000 in
set_option maxRecDepth 100000 in
theorem c_X5_notes (lz : Launch) (G : gG) (a : Nat → Nat) (m : MdS) (k : Nat) (hk : m.undos = nI k) (hk10 : k ≤ 10) : gWr lz yX5_notes wsX5_notes 1 G [.ref (a 0)] (wMd a G.2.1 G.2.2.1 m) (wMd a G.2.1 G.2.2.1 (m.text, m.len, m.pl, m.loss, m.nich, m.st, dNb m k, dNu m k, m.imgs, m.kept, m.heard, m.hm, m.trail, m.pos, m.wrong, m.items, m.rp, m.rl, m.sl, m.rn, m.read)) none := by
  refine g_wr (by decide) rfl (Nat.le_of_ble_eq_true rfl) ?_
  intro pz ez sz mz bz tz cz hx hb hr hml hown hts hlocks hK A hAe hP hD hS ls hl
  have hl : lv_has ls 1 [(0, .ref (a 0))] := hl
  have f20 := hts (.fieldLink RX5 20 "WhisperRingModel" "st" "[I") (by decide +kernel)
  have f23 := hts (.fieldLink RX5 23 "WhisperRingModel" "book" "[I") (by decide +kernel)
  have f95 := hts (.fieldLink RX5 95 "WhisperRingModel" "undos" "I") (by decide +kernel)
  refine lv_aload_n hx hb dX5_notes_0 rfl (lv_at hl 0 rfl) ?_
  refine va_get (D := G.1) (ci := 5) (v := .int m.undos) (C := RX5) (T := TX5) (N := 21) hx hb hts i_X5_notes_X5 hown hK.1 hP 0 rfl rfl 7 (by decide) f95 (fun _ h9 => h9) rfl dX5_notes_1 ?_
  refine lv_bipush (v := 10) hx hb dX5_notes_4 (by decide) ?_
  refine lv_icmp_ne (tgt := 36) hx hb dX5_notes_6 (by decide) (fun c_1 => ?_) (fun c_1 => ?_)
  · skip
    have hk9 : k < 10 := by
      rcases Nat.lt_or_ge k 10 with q | q
      · exact q
      · exact absurd (by rw [hk, show k = 10 by omega]; rfl) c_1
    refine lv_aload_n hx hb dX5_notes_36 rfl (lv_at hl 0 rfl) ?_
    refine va_get (D := G.1) (ci := 5) (v := .ref (a 2)) (C := RX5) (T := TX5) (N := 21) hx hb hts i_X5_notes_X5 hown hK.1 hP 0 rfl rfl 5 (by decide) f20 (fun _ h9 => h9) rfl dX5_notes_37 ?_
    refine lv_iconst (v := 0) hx hb dX5_notes_40 (by decide) ?_
    refine lv_aload_n hx hb dX5_notes_41 rfl (lv_at hl 0 rfl) ?_
    refine va_get (D := G.1) (ci := 5) (v := .ref (a 3)) (C := RX5) (T := TX5) (N := 21) hx hb hts i_X5_notes_X5 hown hK.1 hP 0 rfl rfl 6 (by decide) f23 (fun _ h9 => h9) rfl dX5_notes_42 ?_
    refine lv_bipush (v := 50) hx hb dX5_notes_45 (by decide) ?_
    refine lv_aload_n hx hb dX5_notes_47 rfl (lv_at hl 0 rfl) ?_
    refine va_get (D := G.1) (ci := 5) (v := .int m.undos) (C := RX5) (T := TX5) (N := 21) hx hb hts i_X5_notes_X5 hown hK.1 hP 0 rfl rfl 7 (by decide) f95 (fun _ h9 => h9) rfl dX5_notes_48 ?_
    refine g_top (y := nI k) (hk) ?_
    refine lv_imul hx hb dX5_notes_51 ?_
    refine g_top (y := nI (50 * k)) (pk_mul 50 k) ?_
    refine lv_bipush (v := 50) hx hb dX5_notes_52 (by decide) ?_
    refine g_wrS (As := [.ref (a 2), .int 0, .ref (a 3), .int (nI (50 * k)), .int 50]) (rest := []) (nL := 1) hx hb hml hown hts (c_X5_bring lz G (a 2) (a 3) 50 500 0 (50 * k) 50 m.st m.book (by omega) (by omega) (by decide) (by decide)) gX5_notes_X5_bring rfl h_X5_bring ⟨Nat.le_of_ble_eq_true rfl, Nat.le_of_ble_eq_true rfl⟩ hK hP hD hS [2, 3] rfl rfl rfl (ws1 := wMd a G.2.1 G.2.2.1 (m.text, m.len, m.pl, m.loss, m.nich, m.st, va_cpy m.st m.book 0 (50 * k) 50, m.undos, m.imgs, m.kept, m.heard, m.hm, m.trail, m.pos, m.wrong, m.items, m.rp, m.rl, m.sl, m.rn, m.read)) rfl [a 0, a 1, a 2, a 3, a 4, a 5, a 6, a 7] rfl rfl rfl hl.1 rfl (Nat.le_of_ble_eq_true rfl) ⟨Nat.le_refl _, Nat.le_refl _⟩ dX5_notes_54 (fun H locs hP hD hS => ?_)
    refine lv_aload_n hx hb dX5_notes_57 rfl (lv_at hl 0 rfl) ?_
    refine lv_dup hx hb dX5_notes_58 rfl ?_
    refine va_get (D := G.1) (ci := 5) (v := .int m.undos) (C := RX5) (T := TX5) (N := 21) hx hb hts i_X5_notes_X5 hown hK.1 hP 0 rfl rfl 7 (by decide) f95 (fun _ h9 => h9) rfl dX5_notes_59 ?_
    refine g_top (y := nI k) (hk) ?_
    refine lv_iconst (v := 1) hx hb dX5_notes_62 (by decide) ?_
    refine lv_iadd hx hb dX5_notes_63 ?_
    refine g_top (y := nI (k + 1)) (nI_add k 1) ?_
    refine va_put (D := G.1) (ci := 5) (v := .int (nI (k + 1))) (ty := .int) (C := RX5) (T := TX5) (N := 21) hx hb hts i_X5_notes_X5 tyX5 tyX5_ok nmX5 hown hK.1 hP hD hS 0 rfl rfl 7 (by decide) f95 (fun _ h9 => h9) rfl (by decide +kernel) rfl rfl (Nat.le_of_ble_eq_true rfl) dX5_notes_64 (fun H locs hP hD hS => ?_)
    have hP : va_P G.1 vwCl (wMd a G.2.1 G.2.2.1 (m.text, m.len, m.pl, m.loss, m.nich, m.st, va_cpy m.st m.book 0 (50 * k) 50, nI (k + 1), m.imgs, m.kept, m.heard, m.hm, m.trail, m.pos, m.wrong, m.items, m.rp, m.rl, m.sl, m.rn, m.read)) H := hP
    have hD : va_D A (wMd a G.2.1 G.2.2.1 (m.text, m.len, m.pl, m.loss, m.nich, m.st, va_cpy m.st m.book 0 (50 * k) 50, nI (k + 1), m.imgs, m.kept, m.heard, m.hm, m.trail, m.pos, m.wrong, m.items, m.rp, m.rl, m.sl, m.rn, m.read)) := hD
    have hP : va_P G.1 vwCl (wMd a G.2.1 G.2.2.1 (m.text, m.len, m.pl, m.loss, m.nich, m.st, dNb m k, dNu m k, m.imgs, m.kept, m.heard, m.hm, m.trail, m.pos, m.wrong, m.items, m.rp, m.rl, m.sl, m.rn, m.read)) H := by
      rw [dNb, dNu] <;> (first | rw [if_pos c_1, if_pos c_1] | rw [if_neg c_1, if_neg c_1] | rw [if_neg (by rw [c_1]; decide), if_neg (by rw [c_1]; decide)] | skip)
      exact hP
    exact g_wv hx hb hr hlocks hAe hP hS dX5_notes_67
  · skip
    refine lv_aload_n hx hb dX5_notes_9 rfl (lv_at hl 0 rfl) ?_
    refine va_get (D := G.1) (ci := 5) (v := .ref (a 3)) (C := RX5) (T := TX5) (N := 21) hx hb hts i_X5_notes_X5 hown hK.1 hP 0 rfl rfl 6 (by decide) f23 (fun _ h9 => h9) rfl dX5_notes_10 ?_
    refine lv_bipush (v := 50) hx hb dX5_notes_13 (by decide) ?_
    refine lv_aload_n hx hb dX5_notes_15 rfl (lv_at hl 0 rfl) ?_
    refine va_get (D := G.1) (ci := 5) (v := .ref (a 3)) (C := RX5) (T := TX5) (N := 21) hx hb hts i_X5_notes_X5 hown hK.1 hP 0 rfl rfl 6 (by decide) f23 (fun _ h9 => h9) rfl dX5_notes_16 ?_
    refine lv_iconst (v := 0) hx hb dX5_notes_19 (by decide) ?_
    refine lv_sipush (v := 450) hx hb dX5_notes_20 (by decide) ?_
    refine g_wrS (As := [.ref (a 3), .int 50, .ref (a 3), .int 0, .int 450]) (rest := []) (nL := 1) hx hb hml hown hts (cB_X5_bring lz G (a 3) 500 50 0 450 m.book (by omega) (by omega) (by decide) (by omega)) gX5_notes_X5_bring rfl h_X5_bring ⟨Nat.le_of_ble_eq_true rfl, Nat.le_of_ble_eq_true rfl⟩ hK hP hD hS [3] rfl rfl rfl (ws1 := wMd a G.2.1 G.2.2.1 (m.text, m.len, m.pl, m.loss, m.nich, m.st, va_cpy m.book m.book 50 0 450, m.undos, m.imgs, m.kept, m.heard, m.hm, m.trail, m.pos, m.wrong, m.items, m.rp, m.rl, m.sl, m.rn, m.read)) rfl [a 0, a 1, a 2, a 3, a 4, a 5, a 6, a 7] rfl rfl rfl hl.1 rfl (Nat.le_of_ble_eq_true rfl) ⟨Nat.le_refl _, Nat.le_refl _⟩ dX5_notes_23 (fun H locs hP hD hS => ?_)
    refine lv_aload_n hx hb dX5_notes_26 rfl (lv_at hl 0 rfl) ?_
    refine lv_dup hx hb dX5_notes_27 rfl ?_
    refine va_get (D := G.1) (ci := 5) (v := .int m.undos) (C := RX5) (T := TX5) (N := 21) hx hb hts i_X5_notes_X5 hown hK.1 hP 0 rfl rfl 7 (by decide) f95 (fun _ h9 => h9) rfl dX5_notes_28 ?_
    refine lv_iconst (v := 1) hx hb dX5_notes_31 (by decide) ?_
    refine lv_isub hx hb dX5_notes_32 ?_
    refine g_top (y := nI 9) (by rw [c_1]; rfl) ?_
    refine va_put (D := G.1) (ci := 5) (v := .int (nI 9)) (ty := .int) (C := RX5) (T := TX5) (N := 21) hx hb hts i_X5_notes_X5 tyX5 tyX5_ok nmX5 hown hK.1 hP hD hS 0 rfl rfl 7 (by decide) f95 (fun _ h9 => h9) rfl (by decide +kernel) rfl rfl (Nat.le_of_ble_eq_true rfl) dX5_notes_33 (fun H locs hP hD hS => ?_)
    have hP : va_P G.1 vwCl (wMd a G.2.1 G.2.2.1 (m.text, m.len, m.pl, m.loss, m.nich, m.st, va_cpy m.book m.book 50 0 450, nI 9, m.imgs, m.kept, m.heard, m.hm, m.trail, m.pos, m.wrong, m.items, m.rp, m.rl, m.sl, m.rn, m.read)) H := hP
    have hD : va_D A (wMd a G.2.1 G.2.2.1 (m.text, m.len, m.pl, m.loss, m.nich, m.st, va_cpy m.book m.book 50 0 450, nI 9, m.imgs, m.kept, m.heard, m.hm, m.trail, m.pos, m.wrong, m.items, m.rp, m.rl, m.sl, m.rn, m.read)) := hD
    refine lv_aload_n hx hb dX5_notes_36 rfl (lv_at hl 0 rfl) ?_
    refine va_get (D := G.1) (ci := 5) (v := .ref (a 2)) (C := RX5) (T := TX5) (N := 21) hx hb hts i_X5_notes_X5 hown hK.1 hP 0 rfl rfl 5 (by decide) f20 (fun _ h9 => h9) rfl dX5_notes_37 ?_
    refine lv_iconst (v := 0) hx hb dX5_notes_40 (by decide) ?_
    refine lv_aload_n hx hb dX5_notes_41 rfl (lv_at hl 0 rfl) ?_
    refine va_get (D := G.1) (ci := 5) (v := .ref (a 3)) (C := RX5) (T := TX5) (N := 21) hx hb hts i_X5_notes_X5 hown hK.1 hP 0 rfl rfl 6 (by decide) f23 (fun _ h9 => h9) rfl dX5_notes_42 ?_
    refine lv_bipush (v := 50) hx hb dX5_notes_45 (by decide) ?_
    refine lv_aload_n hx hb dX5_notes_47 rfl (lv_at hl 0 rfl) ?_
    refine va_get (D := G.1) (ci := 5) (v := .int (nI 9)) (C := RX5) (T := TX5) (N := 21) hx hb hts i_X5_notes_X5 hown hK.1 hP 0 rfl rfl 7 (by decide) f95 (fun _ h9 => h9) rfl dX5_notes_48 ?_
    refine lv_imul hx hb dX5_notes_51 ?_
    refine g_top (y := nI (50 * 9)) (pk_mul 50 9) ?_
    refine lv_bipush (v := 50) hx hb dX5_notes_52 (by decide) ?_
    refine g_wrS (As := [.ref (a 2), .int 0, .ref (a 3), .int (nI (50 * 9)), .int 50]) (rest := []) (nL := 1) hx hb hml hown hts (c_X5_bring lz G (a 2) (a 3) 50 500 0 (50 * 9) 50 m.st (va_cpy m.book m.book 50 0 450) (by omega) (by omega) (by decide) (by decide)) gX5_notes_X5_bring rfl h_X5_bring ⟨Nat.le_of_ble_eq_true rfl, Nat.le_of_ble_eq_true rfl⟩ hK hP hD hS [2, 3] rfl rfl rfl (ws1 := wMd a G.2.1 G.2.2.1 (m.text, m.len, m.pl, m.loss, m.nich, m.st, va_cpy m.st (va_cpy m.book m.book 50 0 450) 0 (50 * 9) 50, nI 9, m.imgs, m.kept, m.heard, m.hm, m.trail, m.pos, m.wrong, m.items, m.rp, m.rl, m.sl, m.rn, m.read)) rfl [a 0, a 1, a 2, a 3, a 4, a 5, a 6, a 7] rfl rfl rfl hl.1 rfl (Nat.le_of_ble_eq_true rfl) ⟨Nat.le_refl _, Nat.le_refl _⟩ dX5_notes_54 (fun H locs hP hD hS => ?_)
    refine lv_aload_n hx hb dX5_notes_57 rfl (lv_at hl 0 rfl) ?_
    refine lv_dup hx hb dX5_notes_58 rfl ?_
    refine va_get (D := G.1) (ci := 5) (v := .int (nI 9)) (C := RX5) (T := TX5) (N := 21) hx hb hts i_X5_notes_X5 hown hK.1 hP 0 rfl rfl 7 (by decide) f95 (fun _ h9 => h9) rfl dX5_notes_59 ?_
    refine lv_iconst (v := 1) hx hb dX5_notes_62 (by decide) ?_
    refine lv_iadd hx hb dX5_notes_63 ?_
    refine g_top (y := nI (9 + 1)) (nI_add 9 1) ?_
    refine va_put (D := G.1) (ci := 5) (v := .int (nI (9 + 1))) (ty := .int) (C := RX5) (T := TX5) (N := 21) hx hb hts i_X5_notes_X5 tyX5 tyX5_ok nmX5 hown hK.1 hP hD hS 0 rfl rfl 7 (by decide) f95 (fun _ h9 => h9) rfl (by decide +kernel) rfl rfl (Nat.le_of_ble_eq_true rfl) dX5_notes_64 (fun H locs hP hD hS => ?_)
    have hP : va_P G.1 vwCl (wMd a G.2.1 G.2.2.1 (m.text, m.len, m.pl, m.loss, m.nich, m.st, va_cpy m.st (va_cpy m.book m.book 50 0 450) 0 (50 * 9) 50, nI (9 + 1), m.imgs, m.kept, m.heard, m.hm, m.trail, m.pos, m.wrong, m.items, m.rp, m.rl, m.sl, m.rn, m.read)) H := hP
    have hD : va_D A (wMd a G.2.1 G.2.2.1 (m.text, m.len, m.pl, m.loss, m.nich, m.st, va_cpy m.st (va_cpy m.book m.book 50 0 450) 0 (50 * 9) 50, nI (9 + 1), m.imgs, m.kept, m.heard, m.hm, m.trail, m.pos, m.wrong, m.items, m.rp, m.rl, m.sl, m.rn, m.read)) := hD
    have hP : va_P G.1 vwCl (wMd a G.2.1 G.2.2.1 (m.text, m.len, m.pl, m.loss, m.nich, m.st, dNb m k, dNu m k, m.imgs, m.kept, m.heard, m.hm, m.trail, m.pos, m.wrong, m.items, m.rp, m.rl, m.sl, m.rn, m.read)) H := by
      rw [dNb, dNu] <;> (first | rw [if_pos c_1, if_pos c_1] | rw [if_neg c_1, if_neg c_1] | rw [if_neg (by rw [c_1]; decide), if_neg (by rw [c_1]; decide)] | skip)
      exact hP
    exact g_wv hx hb hr hlocks hAe hP hS dX5_notes_67

theorem i_X5_ticks_X5 : ∀ w ∈ wsX50, w ∈ wsX5_ticks := by decide +kernel
theorem h_X5_ticks : yX5_ticks.cls = RX5 ∧ yX5_ticks.cls ≠ "java/lang/invoke/MethodHandle" ∧ yX5_ticks.cls ≠ "java/lang/invoke/VarHandle" ∧ (parseMethodDescriptor yX5_ticks.desc).map (fun d => d.parameters.length) = some 1 := by decide +kernel
set_option maxHeartbeats 4000000 in
set_option maxRecDepth 100000 in
theorem c_X5_ticks (lz : Launch) (G : gG) (a : Nat → Nat) (m : MdS) (n k : Nat) (x : Int32) (hn : m.st 1 = nI n) (hn8 : n ≤ 8) (hk : m.undos = nI k) (hk10 : k ≤ 10) (hpl : ¬ m.pl = 0) : gWr lz yX5_ticks wsX5_ticks 4 G [.ref (a 0), .int x] (wMd a G.2.1 G.2.2.1 m) (wMd a G.2.1 G.2.2.1 (m.text, m.len, m.pl, m.loss, m.nich, yTiSt m x, yTiB m k x, yTiU m k x, m.imgs, m.kept, m.heard, m.hm, m.trail, m.pos, m.wrong, m.items, m.rp, m.rl, m.sl, m.rn, m.read)) (some (.int (yTiR m n k x))) := by
  refine g_wr (by decide) rfl (Nat.le_of_ble_eq_true rfl) ?_
  intro pz ez sz mz bz tz cz hx hb hr hml hown hts hlocks hK A hAe hP hD hS ls hl
  have hl : lv_has ls 2 [(0, .ref (a 0)), (1, .int x)] := hl
  have f20 := hts (.fieldLink RX5 20 "WhisperRingModel" "st" "[I") (by decide +kernel)
  refine lv_iload_n hx hb dX5_ticks_0 rfl (lv_at hl 1 rfl) ?_
  refine lv_iconst (v := 1) hx hb dX5_ticks_1 (by decide) ?_
  refine lv_bipush (v := 99) hx hb dX5_ticks_2 (by decide) ?_
  refine g_rdS (As := [.int x, .int 1, .int 99]) (rest := []) (nL := 2) hx hb hml hown hts (c_X5_in lz G x 1 99) gX5_ticks_X5_in rfl h_X5_in ⟨Nat.le_of_ble_eq_true rfl, Nat.le_of_ble_eq_true rfl⟩ hK gP_nil rfl hl.1 rfl (Nat.le_of_ble_eq_true rfl) ⟨Nat.le_refl _, Nat.le_refl _⟩ dX5_ticks_4 ?_
  refine lv_if_ne (tgt := 12) hx hb dX5_ticks_7 (by decide) (fun c_1 => ?_) (fun c_1 => ?_)
  · skip
    have c_1 := bI_1 c_1
    refine lv_aload_n hx hb dX5_ticks_12 rfl (lv_at hl 0 rfl) ?_
    refine va_get (D := G.1) (ci := 5) (v := .ref (a 2)) (C := RX5) (T := TX5) (N := 21) hx hb hts i_X5_ticks_X5 hown hK.1 hP 0 rfl rfl 5 (by decide) f20 (fun _ h9 => h9) rfl dX5_ticks_13 ?_
    refine lv_iconst (v := 0) hx hb dX5_ticks_16 (by decide) ?_
    refine g_top (y := nI 0) rfl ?_
    refine g_iald hx hb hK.1 hP 2 0 rfl rfl (i := 0) (by omega) (by decide) dX5_ticks_17 ?_
    refine lv_iload_n hx hb dX5_ticks_18 rfl (lv_at hl 1 rfl) ?_
    refine lv_iadd hx hb dX5_ticks_19 ?_
    refine lv_sipush (v := 9999) hx hb dX5_ticks_20 (by decide) ?_
    refine lv_icmp_le (tgt := 29) hx hb dX5_ticks_23 (by decide) (fun c_2 => ?_) (fun c_2 => ?_)
    · skip
      have c_2 := gl_le c_2
      refine lv_aload_n hx hb dX5_ticks_29 rfl (lv_at hl 0 rfl) ?_
      refine g_wrV (As := []) (rest := []) (nL := 2) hx hb hml hown hts (c_X5_notes lz G a m k hk hk10) gX5_ticks_X5_notes rfl h_X5_notes ⟨Nat.le_of_ble_eq_true rfl, Nat.le_of_ble_eq_true rfl⟩ hK hP hD hS [0, 1, 2, 3, 4, 5, 6, 7] rfl rfl rfl (ws1 := wMd a G.2.1 G.2.2.1 (m.text, m.len, m.pl, m.loss, m.nich, m.st, dNb m k, dNu m k, m.imgs, m.kept, m.heard, m.hm, m.trail, m.pos, m.wrong, m.items, m.rp, m.rl, m.sl, m.rn, m.read)) rfl [a 0, a 1, a 2, a 3, a 4, a 5, a 6, a 7] rfl rfl (ci := 5) rfl rfl rfl rfl hl.1 rfl (Nat.le_of_ble_eq_true rfl) ⟨Nat.le_refl _, Nat.le_refl _⟩ dX5_ticks_30 (fun H locs hP hD hS => ?_)
      refine lv_aload_n hx hb dX5_ticks_33 rfl (lv_at hl 0 rfl) ?_
      refine va_get (D := G.1) (ci := 5) (v := .ref (a 2)) (C := RX5) (T := TX5) (N := 21) hx hb hts i_X5_ticks_X5 hown hK.1 hP 0 rfl rfl 5 (by decide) f20 (fun _ h9 => h9) rfl dX5_ticks_34 ?_
      refine lv_iconst (v := 0) hx hb dX5_ticks_37 (by decide) ?_
      refine g_top (y := nI 0) (rfl) ?_
      refine lv_dup2_11 hx hb dX5_ticks_38 rfl rfl ?_
      refine g_iald hx hb hK.1 hP 2 0 rfl rfl (i := 0) (by omega) (by decide) dX5_ticks_39 ?_
      refine lv_iload_n hx hb dX5_ticks_40 rfl (lv_at hl 1 rfl) ?_
      refine lv_iadd hx hb dX5_ticks_41 ?_
      refine g_iast hx hb hK.1 hP hD hS 2 0 rfl rfl (i := 0) (by omega) (by decide) dX5_ticks_42 (fun H locs hP hD hS => ?_)
      have hP : va_P G.1 vwCl (wMd a G.2.1 G.2.2.1 (m.text, m.len, m.pl, m.loss, m.nich, upd m.st 0 ((m.st 0) + x), dNb m k, dNu m k, m.imgs, m.kept, m.heard, m.hm, m.trail, m.pos, m.wrong, m.items, m.rp, m.rl, m.sl, m.rn, m.read)) H := hP
      have hD : va_D A (wMd a G.2.1 G.2.2.1 (m.text, m.len, m.pl, m.loss, m.nich, upd m.st 0 ((m.st 0) + x), dNb m k, dNu m k, m.imgs, m.kept, m.heard, m.hm, m.trail, m.pos, m.wrong, m.items, m.rp, m.rl, m.sl, m.rn, m.read)) := hD
      refine lv_aload_n hx hb dX5_ticks_43 rfl (lv_at hl 0 rfl) ?_
      refine g_rdV (As := []) (rest := []) (nL := 2) hx hb hml hown hts (c_X5_alive lz G a (m.text, m.len, m.pl, m.loss, m.nich, upd m.st 0 ((m.st 0) + x), dNb m k, dNu m k, m.imgs, m.kept, m.heard, m.hm, m.trail, m.pos, m.wrong, m.items, m.rp, m.rl, m.sl, m.rn, m.read) n hn hn8 hpl) gX5_ticks_X5_alive rfl h_X5_alive ⟨Nat.le_of_ble_eq_true rfl, Nat.le_of_ble_eq_true rfl⟩ hK hP (ci := 5) rfl rfl rfl rfl hl.1 rfl (Nat.le_of_ble_eq_true rfl) ⟨Nat.le_refl _, Nat.le_refl _⟩ dX5_ticks_44 ?_
      refine g_rdS (As := [.int (dAl (m.text, m.len, m.pl, m.loss, m.nich, upd m.st 0 ((m.st 0) + x), dNb m k, dNu m k, m.imgs, m.kept, m.heard, m.hm, m.trail, m.pos, m.wrong, m.items, m.rp, m.rl, m.sl, m.rn, m.read) n)]) (rest := []) (nL := 2) hx hb hml hown hts (c_X5_bits lz G (dAl (m.text, m.len, m.pl, m.loss, m.nich, upd m.st 0 ((m.st 0) + x), dNb m k, dNu m k, m.imgs, m.kept, m.heard, m.hm, m.trail, m.pos, m.wrong, m.items, m.rp, m.rl, m.sl, m.rn, m.read) n)) gX5_ticks_X5_bits rfl h_X5_bits ⟨Nat.le_of_ble_eq_true rfl, Nat.le_of_ble_eq_true rfl⟩ hK gP_nil rfl hl.1 rfl (Nat.le_of_ble_eq_true rfl) ⟨Nat.le_refl _, Nat.le_refl _⟩ dX5_ticks_47 ?_
      have hP : va_P G.1 vwCl (wMd a G.2.1 G.2.2.1 (m.text, m.len, m.pl, m.loss, m.nich, yTiSt m x, yTiB m k x, yTiU m k x, m.imgs, m.kept, m.heard, m.hm, m.trail, m.pos, m.wrong, m.items, m.rp, m.rl, m.sl, m.rn, m.read)) H := by
        rw [yTiSt, yTiB, yTiU] <;> (first | rw [if_pos c_1, if_pos c_1, if_pos c_1] | rw [if_neg c_1, if_neg c_1, if_neg c_1] | rw [if_neg (by rw [c_1]; decide), if_neg (by rw [c_1]; decide), if_neg (by rw [c_1]; decide)] | skip) <;> (first | rw [if_pos c_2, if_pos c_2, if_pos c_2] | rw [if_neg c_2, if_neg c_2, if_neg c_2] | rw [if_neg (by rw [c_2]; decide), if_neg (by rw [c_2]; decide), if_neg (by rw [c_2]; decide)] | skip)
        exact hP
      exact g_wi hx hb hr hlocks hAe hP hS dX5_ticks_50 (by rw [yTiR] <;> (first | done | rw [if_pos c_1] | rw [if_neg c_1] | rw [if_neg (by rw [c_1]; decide)] | skip) <;> (first | done | rw [if_pos c_2] | rw [if_neg c_2] | rw [if_neg (by rw [c_2]; decide)] | skip) <;> (first | done | rfl | (simp only [c_1, c_2]; rfl) | (simp [c_1, c_2, bI]; done)))
    · skip
      have c_2 := gl_nle c_2
      refine lv_bipush (v := (-2)) hx hb dX5_ticks_26 (by decide) ?_
      have hP : va_P G.1 vwCl (wMd a G.2.1 G.2.2.1 (m.text, m.len, m.pl, m.loss, m.nich, yTiSt m x, yTiB m k x, yTiU m k x, m.imgs, m.kept, m.heard, m.hm, m.trail, m.pos, m.wrong, m.items, m.rp, m.rl, m.sl, m.rn, m.read)) sz.heap := by
        rw [yTiSt, yTiB, yTiU] <;> (first | rw [if_pos c_1, if_pos c_1, if_pos c_1] | rw [if_neg c_1, if_neg c_1, if_neg c_1] | rw [if_neg (by rw [c_1]; decide), if_neg (by rw [c_1]; decide), if_neg (by rw [c_1]; decide)] | skip) <;> (first | rw [if_pos c_2, if_pos c_2, if_pos c_2] | rw [if_neg c_2, if_neg c_2, if_neg c_2] | rw [if_neg (by rw [c_2]; decide), if_neg (by rw [c_2]; decide), if_neg (by rw [c_2]; decide)] | skip)
        exact hP
      exact g_wi hx hb hr hlocks hAe hP hS dX5_ticks_28 (by rw [yTiR] <;> (first | done | rw [if_pos c_1] | rw [if_neg c_1] | rw [if_neg (by rw [c_1]; decide)] | skip) <;> (first | done | rw [if_pos c_2] | rw [if_neg c_2] | rw [if_neg (by rw [c_2]; decide)] | skip) <;> (first | done | rfl | (simp only [c_1, c_2]; rfl) | (simp [c_1, c_2, bI]; done)))
  · skip
    have c_1 := bI_0 c_1
    refine lv_iconst (v := (-1)) hx hb dX5_ticks_10 (by decide) ?_
    have hP : va_P G.1 vwCl (wMd a G.2.1 G.2.2.1 (m.text, m.len, m.pl, m.loss, m.nich, yTiSt m x, yTiB m k x, yTiU m k x, m.imgs, m.kept, m.heard, m.hm, m.trail, m.pos, m.wrong, m.items, m.rp, m.rl, m.sl, m.rn, m.read)) sz.heap := by
      rw [yTiSt, yTiB, yTiU] <;> (first | rw [if_pos c_1, if_pos c_1, if_pos c_1] | rw [if_neg c_1, if_neg c_1, if_neg c_1] | rw [if_neg (by rw [c_1]; decide), if_neg (by rw [c_1]; decide), if_neg (by rw [c_1]; decide)] | skip)
      exact hP
    exact g_wi hx hb hr hlocks hAe hP hS dX5_ticks_11 (by rw [yTiR] <;> (first | done | rw [if_pos c_1] | rw [if_neg c_1] | rw [if_neg (by rw [c_1]; decide)] | skip) <;> (first | done | rfl | (simp only [c_1]; rfl) | (simp [c_1, bI]; done)))

theorem i_X5_says_X5 : ∀ w ∈ wsX50, w ∈ wsX5_says := by decide +kernel
theorem h_X5_says : yX5_says.cls = RX5 ∧ yX5_says.cls ≠ "java/lang/invoke/MethodHandle" ∧ yX5_says.cls ≠ "java/lang/invoke/VarHandle" ∧ (parseMethodDescriptor yX5_says.desc).map (fun d => d.parameters.length) = some 4 := by decide +kernel
set_option maxHeartbeats 4000000 in
set_option maxRecDepth 100000 in
theorem c_X5_says (lz : Launch) (G : gG) (a : Nat → Nat) (m : MdS) (n k : Nat) (p sp wa lo : Int32) (hn : m.st 1 = nI n) (hn8 : n ≤ 8) (hk : m.undos = nI k) (hk10 : k ≤ 10) : gWr lz yX5_says wsX5_says 2 G [.ref (a 0), .int p, .int sp, .int wa, .int lo] (wMd a G.2.1 G.2.2.1 m) (wMd a G.2.1 G.2.2.1 (m.text, m.len, m.pl, m.loss, m.nich, ySaSt m n p sp wa lo, ySaB m k p sp wa lo, ySaU m k p sp wa lo, m.imgs, m.kept, m.heard, m.hm, m.trail, m.pos, m.wrong, m.items, m.rp, m.rl, m.sl, m.rn, m.read)) (some (.int (ySaR m p sp wa lo))) := by
  refine g_wr (by decide) rfl (Nat.le_of_ble_eq_true rfl) ?_
  intro pz ez sz mz bz tz cz hx hb hr hml hown hts hlocks hK A hAe hP hD hS ls hl
  have hl : lv_has ls 6 [(0, .ref (a 0)), (1, .int p), (2, .int sp), (3, .int wa), (4, .int lo)] := hl
  have f20 := hts (.fieldLink RX5 20 "WhisperRingModel" "st" "[I") (by decide +kernel)
  refine lv_aload_n hx hb dX5_says_0 rfl (lv_at hl 0 rfl) ?_
  refine lv_iload_n hx hb dX5_says_1 rfl (lv_at hl 1 rfl) ?_
  refine g_rdV (As := [.int p]) (rest := []) (nL := 6) hx hb hml hown hts (c_X5_isPlace lz G a m p) gX5_says_X5_isPlace rfl h_X5_isPlace ⟨Nat.le_of_ble_eq_true rfl, Nat.le_of_ble_eq_true rfl⟩ hK hP (ci := 5) rfl rfl rfl rfl hl.1 rfl (Nat.le_of_ble_eq_true rfl) ⟨Nat.le_refl _, Nat.le_refl _⟩ dX5_says_2 ?_
  refine lv_if_eq (tgt := 38) hx hb dX5_says_5 (by decide) (fun c_1 => ?_) (fun c_1 => ?_)
  · skip
    have c_1 := bI_0 c_1
    refine lv_iconst (v := (-1)) hx hb dX5_says_38 (by decide) ?_
    have hP : va_P G.1 vwCl (wMd a G.2.1 G.2.2.1 (m.text, m.len, m.pl, m.loss, m.nich, ySaSt m n p sp wa lo, ySaB m k p sp wa lo, ySaU m k p sp wa lo, m.imgs, m.kept, m.heard, m.hm, m.trail, m.pos, m.wrong, m.items, m.rp, m.rl, m.sl, m.rn, m.read)) sz.heap := by
      rw [ySaSt, ySaB, ySaU] <;> (first | rw [if_pos c_1, if_pos c_1, if_pos c_1] | rw [if_neg c_1, if_neg c_1, if_neg c_1] | rw [if_neg (by rw [c_1]; decide), if_neg (by rw [c_1]; decide), if_neg (by rw [c_1]; decide)] | skip)
      exact hP
    exact g_wi hx hb hr hlocks hAe hP hS dX5_says_39 (by rw [ySaR] <;> (first | done | rw [if_pos c_1] | rw [if_neg c_1] | rw [if_neg (by rw [c_1]; decide)] | skip) <;> (first | done | rfl | exact hn.symm))
  · skip
    have c_1 := bI_1 c_1
    refine lv_iload_n hx hb dX5_says_8 rfl (lv_at hl 2 rfl) ?_
    refine lv_iconst (v := 1) hx hb dX5_says_9 (by decide) ?_
    refine lv_bipush (v := 6) hx hb dX5_says_10 (by decide) ?_
    refine g_rdS (As := [.int sp, .int 1, .int 6]) (rest := []) (nL := 6) hx hb hml hown hts (c_X5_in lz G sp 1 6) gX5_says_X5_in rfl h_X5_in ⟨Nat.le_of_ble_eq_true rfl, Nat.le_of_ble_eq_true rfl⟩ hK gP_nil rfl hl.1 rfl (Nat.le_of_ble_eq_true rfl) ⟨Nat.le_refl _, Nat.le_refl _⟩ dX5_says_12 ?_
    refine lv_if_eq (tgt := 38) hx hb dX5_says_15 (by decide) (fun c_2 => ?_) (fun c_2 => ?_)
    · skip
      have c_2 := bI_0 c_2
      refine lv_iconst (v := (-1)) hx hb dX5_says_38 (by decide) ?_
      have hP : va_P G.1 vwCl (wMd a G.2.1 G.2.2.1 (m.text, m.len, m.pl, m.loss, m.nich, ySaSt m n p sp wa lo, ySaB m k p sp wa lo, ySaU m k p sp wa lo, m.imgs, m.kept, m.heard, m.hm, m.trail, m.pos, m.wrong, m.items, m.rp, m.rl, m.sl, m.rn, m.read)) sz.heap := by
        rw [ySaSt, ySaB, ySaU] <;> (first | rw [if_pos c_1, if_pos c_1, if_pos c_1] | rw [if_neg c_1, if_neg c_1, if_neg c_1] | rw [if_neg (by rw [c_1]; decide), if_neg (by rw [c_1]; decide), if_neg (by rw [c_1]; decide)] | skip) <;> (first | rw [if_pos c_2, if_pos c_2, if_pos c_2] | rw [if_neg c_2, if_neg c_2, if_neg c_2] | rw [if_neg (by rw [c_2]; decide), if_neg (by rw [c_2]; decide), if_neg (by rw [c_2]; decide)] | skip)
        exact hP
      exact g_wi hx hb hr hlocks hAe hP hS dX5_says_39 (by rw [ySaR] <;> (first | done | rw [if_pos c_1] | rw [if_neg c_1] | rw [if_neg (by rw [c_1]; decide)] | skip) <;> (first | done | rw [if_pos c_2] | rw [if_neg c_2] | rw [if_neg (by rw [c_2]; decide)] | skip) <;> (first | done | rfl | exact hn.symm))
    · skip
      have c_2 := bI_1 c_2
      refine lv_iload_n hx hb dX5_says_18 rfl (lv_at hl 3 rfl) ?_
      refine lv_iconst (v := 0) hx hb dX5_says_19 (by decide) ?_
      refine lv_iconst (v := 1) hx hb dX5_says_20 (by decide) ?_
      refine g_rdS (As := [.int wa, .int 0, .int 1]) (rest := []) (nL := 6) hx hb hml hown hts (c_X5_in lz G wa 0 1) gX5_says_X5_in rfl h_X5_in ⟨Nat.le_of_ble_eq_true rfl, Nat.le_of_ble_eq_true rfl⟩ hK gP_nil rfl hl.1 rfl (Nat.le_of_ble_eq_true rfl) ⟨Nat.le_refl _, Nat.le_refl _⟩ dX5_says_21 ?_
      refine lv_if_eq (tgt := 38) hx hb dX5_says_24 (by decide) (fun c_3 => ?_) (fun c_3 => ?_)
      · skip
        have c_3 := bI_0 c_3
        refine lv_iconst (v := (-1)) hx hb dX5_says_38 (by decide) ?_
        have hP : va_P G.1 vwCl (wMd a G.2.1 G.2.2.1 (m.text, m.len, m.pl, m.loss, m.nich, ySaSt m n p sp wa lo, ySaB m k p sp wa lo, ySaU m k p sp wa lo, m.imgs, m.kept, m.heard, m.hm, m.trail, m.pos, m.wrong, m.items, m.rp, m.rl, m.sl, m.rn, m.read)) sz.heap := by
          rw [ySaSt, ySaB, ySaU] <;> (first | rw [if_pos c_1, if_pos c_1, if_pos c_1] | rw [if_neg c_1, if_neg c_1, if_neg c_1] | rw [if_neg (by rw [c_1]; decide), if_neg (by rw [c_1]; decide), if_neg (by rw [c_1]; decide)] | skip) <;> (first | rw [if_pos c_2, if_pos c_2, if_pos c_2] | rw [if_neg c_2, if_neg c_2, if_neg c_2] | rw [if_neg (by rw [c_2]; decide), if_neg (by rw [c_2]; decide), if_neg (by rw [c_2]; decide)] | skip) <;> (first | rw [if_pos c_3, if_pos c_3, if_pos c_3] | rw [if_neg c_3, if_neg c_3, if_neg c_3] | rw [if_neg (by rw [c_3]; decide), if_neg (by rw [c_3]; decide), if_neg (by rw [c_3]; decide)] | skip)
          exact hP
        exact g_wi hx hb hr hlocks hAe hP hS dX5_says_39 (by rw [ySaR] <;> (first | done | rw [if_pos c_1] | rw [if_neg c_1] | rw [if_neg (by rw [c_1]; decide)] | skip) <;> (first | done | rw [if_pos c_2] | rw [if_neg c_2] | rw [if_neg (by rw [c_2]; decide)] | skip) <;> (first | done | rw [if_pos c_3] | rw [if_neg c_3] | rw [if_neg (by rw [c_3]; decide)] | skip) <;> (first | done | rfl | exact hn.symm))
      · skip
        have c_3 := bI_1 c_3
        refine lv_iload hx hb dX5_says_27 (lv_at hl 4 rfl) ?_
        refine lv_iconst (v := 1) hx hb dX5_says_29 (by decide) ?_
        refine lv_bipush (v := 30) hx hb dX5_says_30 (by decide) ?_
        refine g_rdS (As := [.int lo, .int 1, .int 30]) (rest := []) (nL := 6) hx hb hml hown hts (c_X5_in lz G lo 1 30) gX5_says_X5_in rfl h_X5_in ⟨Nat.le_of_ble_eq_true rfl, Nat.le_of_ble_eq_true rfl⟩ hK gP_nil rfl hl.1 rfl (Nat.le_of_ble_eq_true rfl) ⟨Nat.le_refl _, Nat.le_refl _⟩ dX5_says_32 ?_
        refine lv_if_ne (tgt := 40) hx hb dX5_says_35 (by decide) (fun c_4 => ?_) (fun c_4 => ?_)
        · skip
          have c_4 := bI_1 c_4
          refine lv_aload_n hx hb dX5_says_40 rfl (lv_at hl 0 rfl) ?_
          refine va_get (D := G.1) (ci := 5) (v := .ref (a 2)) (C := RX5) (T := TX5) (N := 21) hx hb hts i_X5_says_X5 hown hK.1 hP 0 rfl rfl 5 (by decide) f20 (fun _ h9 => h9) rfl dX5_says_41 ?_
          refine lv_iconst (v := 1) hx hb dX5_says_44 (by decide) ?_
          refine g_top (y := nI 1) rfl ?_
          refine g_iald hx hb hK.1 hP 2 0 rfl rfl (i := 1) (by omega) (by decide) dX5_says_45 ?_
          refine g_top (y := nI n) (hn) ?_
          refine lv_istore (lv' := [(5, .int (nI n)), (0, .ref (a 0)), (1, .int p), (2, .int sp), (3, .int wa), (4, .int lo)]) hx hb dX5_says_46 hl (by decide) rfl (fun ls hl => ?_)
          refine lv_iload hx hb dX5_says_48 (lv_at hl 0 rfl) ?_
          refine lv_bipush (v := 8) hx hb dX5_says_50 (by decide) ?_
          refine lv_icmp_ne (tgt := 58) hx hb dX5_says_52 (by decide) (fun c_5 => ?_) (fun c_5 => ?_)
          · skip
            have h8 : n < 8 := by
              rcases Nat.lt_or_ge n 8 with q | q
              · exact q
              · exact absurd (by rw [show n = 8 by omega]; rfl) c_5
            have c_5 : ¬ m.st 1 = 8 := by rw [hn]; exact c_5
            refine lv_aload_n hx hb dX5_says_58 rfl (lv_at hl 1 rfl) ?_
            refine g_wrV (As := []) (rest := []) (nL := 6) hx hb hml hown hts (c_X5_notes lz G a m k hk hk10) gX5_says_X5_notes rfl h_X5_notes ⟨Nat.le_of_ble_eq_true rfl, Nat.le_of_ble_eq_true rfl⟩ hK hP hD hS [0, 1, 2, 3, 4, 5, 6, 7] rfl rfl rfl (ws1 := wMd a G.2.1 G.2.2.1 (m.text, m.len, m.pl, m.loss, m.nich, m.st, dNb m k, dNu m k, m.imgs, m.kept, m.heard, m.hm, m.trail, m.pos, m.wrong, m.items, m.rp, m.rl, m.sl, m.rn, m.read)) rfl [a 0, a 1, a 2, a 3, a 4, a 5, a 6, a 7] rfl rfl (ci := 5) rfl rfl rfl rfl hl.1 rfl (Nat.le_of_ble_eq_true rfl) ⟨Nat.le_refl _, Nat.le_refl _⟩ dX5_says_59 (fun H locs hP hD hS => ?_)
            refine lv_aload_n hx hb dX5_says_62 rfl (lv_at hl 1 rfl) ?_
            refine va_get (D := G.1) (ci := 5) (v := .ref (a 2)) (C := RX5) (T := TX5) (N := 21) hx hb hts i_X5_says_X5 hown hK.1 hP 0 rfl rfl 5 (by decide) f20 (fun _ h9 => h9) rfl dX5_says_63 ?_
            refine lv_iconst (v := 2) hx hb dX5_says_66 (by decide) ?_
            refine lv_iload hx hb dX5_says_67 (lv_at hl 0 rfl) ?_
            refine lv_iadd hx hb dX5_says_69 ?_
            refine g_top (y := nI (2 + n)) (nI_add 2 n) ?_
            refine lv_iload_n hx hb dX5_says_70 rfl (lv_at hl 2 rfl) ?_
            refine g_iast hx hb hK.1 hP hD hS 2 0 rfl rfl (i := (2 + n)) (by omega) (by decide) dX5_says_71 (fun H locs hP hD hS => ?_)
            have hP : va_P G.1 vwCl (wMd a G.2.1 G.2.2.1 (m.text, m.len, m.pl, m.loss, m.nich, upd m.st (2 + n) p, dNb m k, dNu m k, m.imgs, m.kept, m.heard, m.hm, m.trail, m.pos, m.wrong, m.items, m.rp, m.rl, m.sl, m.rn, m.read)) H := hP
            have hD : va_D A (wMd a G.2.1 G.2.2.1 (m.text, m.len, m.pl, m.loss, m.nich, upd m.st (2 + n) p, dNb m k, dNu m k, m.imgs, m.kept, m.heard, m.hm, m.trail, m.pos, m.wrong, m.items, m.rp, m.rl, m.sl, m.rn, m.read)) := hD
            refine lv_aload_n hx hb dX5_says_72 rfl (lv_at hl 1 rfl) ?_
            refine va_get (D := G.1) (ci := 5) (v := .ref (a 2)) (C := RX5) (T := TX5) (N := 21) hx hb hts i_X5_says_X5 hown hK.1 hP 0 rfl rfl 5 (by decide) f20 (fun _ h9 => h9) rfl dX5_says_73 ?_
            refine lv_bipush (v := 10) hx hb dX5_says_76 (by decide) ?_
            refine lv_iload hx hb dX5_says_78 (lv_at hl 0 rfl) ?_
            refine lv_iadd hx hb dX5_says_80 ?_
            refine g_top (y := nI (10 + n)) (nI_add 10 n) ?_
            refine lv_iload_n hx hb dX5_says_81 rfl (lv_at hl 3 rfl) ?_
            refine g_iast hx hb hK.1 hP hD hS 2 0 rfl rfl (i := (10 + n)) (by omega) (by decide) dX5_says_82 (fun H locs hP hD hS => ?_)
            have hP : va_P G.1 vwCl (wMd a G.2.1 G.2.2.1 (m.text, m.len, m.pl, m.loss, m.nich, upd (upd m.st (2 + n) p) (10 + n) sp, dNb m k, dNu m k, m.imgs, m.kept, m.heard, m.hm, m.trail, m.pos, m.wrong, m.items, m.rp, m.rl, m.sl, m.rn, m.read)) H := hP
            have hD : va_D A (wMd a G.2.1 G.2.2.1 (m.text, m.len, m.pl, m.loss, m.nich, upd (upd m.st (2 + n) p) (10 + n) sp, dNb m k, dNu m k, m.imgs, m.kept, m.heard, m.hm, m.trail, m.pos, m.wrong, m.items, m.rp, m.rl, m.sl, m.rn, m.read)) := hD
            refine lv_aload_n hx hb dX5_says_83 rfl (lv_at hl 1 rfl) ?_
            refine va_get (D := G.1) (ci := 5) (v := .ref (a 2)) (C := RX5) (T := TX5) (N := 21) hx hb hts i_X5_says_X5 hown hK.1 hP 0 rfl rfl 5 (by decide) f20 (fun _ h9 => h9) rfl dX5_says_84 ?_
            refine lv_bipush (v := 18) hx hb dX5_says_87 (by decide) ?_
            refine lv_iload hx hb dX5_says_89 (lv_at hl 0 rfl) ?_
            refine lv_iadd hx hb dX5_says_91 ?_
            refine g_top (y := nI (18 + n)) (nI_add 18 n) ?_
            refine lv_iload_n hx hb dX5_says_92 rfl (lv_at hl 4 rfl) ?_
            refine g_iast hx hb hK.1 hP hD hS 2 0 rfl rfl (i := (18 + n)) (by omega) (by decide) dX5_says_93 (fun H locs hP hD hS => ?_)
            have hP : va_P G.1 vwCl (wMd a G.2.1 G.2.2.1 (m.text, m.len, m.pl, m.loss, m.nich, upd (upd (upd m.st (2 + n) p) (10 + n) sp) (18 + n) wa, dNb m k, dNu m k, m.imgs, m.kept, m.heard, m.hm, m.trail, m.pos, m.wrong, m.items, m.rp, m.rl, m.sl, m.rn, m.read)) H := hP
            have hD : va_D A (wMd a G.2.1 G.2.2.1 (m.text, m.len, m.pl, m.loss, m.nich, upd (upd (upd m.st (2 + n) p) (10 + n) sp) (18 + n) wa, dNb m k, dNu m k, m.imgs, m.kept, m.heard, m.hm, m.trail, m.pos, m.wrong, m.items, m.rp, m.rl, m.sl, m.rn, m.read)) := hD
            refine lv_aload_n hx hb dX5_says_94 rfl (lv_at hl 1 rfl) ?_
            refine va_get (D := G.1) (ci := 5) (v := .ref (a 2)) (C := RX5) (T := TX5) (N := 21) hx hb hts i_X5_says_X5 hown hK.1 hP 0 rfl rfl 5 (by decide) f20 (fun _ h9 => h9) rfl dX5_says_95 ?_
            refine lv_bipush (v := 26) hx hb dX5_says_98 (by decide) ?_
            refine lv_iload hx hb dX5_says_100 (lv_at hl 0 rfl) ?_
            refine lv_iadd hx hb dX5_says_102 ?_
            refine g_top (y := nI (26 + n)) (nI_add 26 n) ?_
            refine lv_iload hx hb dX5_says_103 (lv_at hl 5 rfl) ?_
            refine g_iast hx hb hK.1 hP hD hS 2 0 rfl rfl (i := (26 + n)) (by omega) (by decide) dX5_says_105 (fun H locs hP hD hS => ?_)
            have hP : va_P G.1 vwCl (wMd a G.2.1 G.2.2.1 (m.text, m.len, m.pl, m.loss, m.nich, upd (upd (upd (upd m.st (2 + n) p) (10 + n) sp) (18 + n) wa) (26 + n) lo, dNb m k, dNu m k, m.imgs, m.kept, m.heard, m.hm, m.trail, m.pos, m.wrong, m.items, m.rp, m.rl, m.sl, m.rn, m.read)) H := hP
            have hD : va_D A (wMd a G.2.1 G.2.2.1 (m.text, m.len, m.pl, m.loss, m.nich, upd (upd (upd (upd m.st (2 + n) p) (10 + n) sp) (18 + n) wa) (26 + n) lo, dNb m k, dNu m k, m.imgs, m.kept, m.heard, m.hm, m.trail, m.pos, m.wrong, m.items, m.rp, m.rl, m.sl, m.rn, m.read)) := hD
            refine lv_aload_n hx hb dX5_says_106 rfl (lv_at hl 1 rfl) ?_
            refine va_get (D := G.1) (ci := 5) (v := .ref (a 2)) (C := RX5) (T := TX5) (N := 21) hx hb hts i_X5_says_X5 hown hK.1 hP 0 rfl rfl 5 (by decide) f20 (fun _ h9 => h9) rfl dX5_says_107 ?_
            refine lv_bipush (v := 34) hx hb dX5_says_110 (by decide) ?_
            refine lv_iload hx hb dX5_says_112 (lv_at hl 0 rfl) ?_
            refine lv_iadd hx hb dX5_says_114 ?_
            refine g_top (y := nI (34 + n)) (nI_add 34 n) ?_
            refine lv_aload_n hx hb dX5_says_115 rfl (lv_at hl 1 rfl) ?_
            refine va_get (D := G.1) (ci := 5) (v := .ref (a 2)) (C := RX5) (T := TX5) (N := 21) hx hb hts i_X5_says_X5 hown hK.1 hP 0 rfl rfl 5 (by decide) f20 (fun _ h9 => h9) rfl dX5_says_116 ?_
            refine lv_iconst (v := 0) hx hb dX5_says_119 (by decide) ?_
            refine g_top (y := nI 0) (rfl) ?_
            refine g_iald hx hb hK.1 hP 2 0 rfl rfl (i := 0) (by omega) (by decide) dX5_says_120 ?_
            refine g_iast hx hb hK.1 hP hD hS 2 0 rfl rfl (i := (34 + n)) (by omega) (by decide) dX5_says_121 (fun H locs hP hD hS => ?_)
            have hP : va_P G.1 vwCl (wMd a G.2.1 G.2.2.1 (m.text, m.len, m.pl, m.loss, m.nich, upd (upd (upd (upd (upd m.st (2 + n) p) (10 + n) sp) (18 + n) wa) (26 + n) lo) (34 + n) ((upd (upd (upd (upd m.st (2 + n) p) (10 + n) sp) (18 + n) wa) (26 + n) lo) 0), dNb m k, dNu m k, m.imgs, m.kept, m.heard, m.hm, m.trail, m.pos, m.wrong, m.items, m.rp, m.rl, m.sl, m.rn, m.read)) H := hP
            have hD : va_D A (wMd a G.2.1 G.2.2.1 (m.text, m.len, m.pl, m.loss, m.nich, upd (upd (upd (upd (upd m.st (2 + n) p) (10 + n) sp) (18 + n) wa) (26 + n) lo) (34 + n) ((upd (upd (upd (upd m.st (2 + n) p) (10 + n) sp) (18 + n) wa) (26 + n) lo) 0), dNb m k, dNu m k, m.imgs, m.kept, m.heard, m.hm, m.trail, m.pos, m.wrong, m.items, m.rp, m.rl, m.sl, m.rn, m.read)) := hD
            refine lv_aload_n hx hb dX5_says_122 rfl (lv_at hl 1 rfl) ?_
            refine va_get (D := G.1) (ci := 5) (v := .ref (a 2)) (C := RX5) (T := TX5) (N := 21) hx hb hts i_X5_says_X5 hown hK.1 hP 0 rfl rfl 5 (by decide) f20 (fun _ h9 => h9) rfl dX5_says_123 ?_
            refine lv_bipush (v := 42) hx hb dX5_says_126 (by decide) ?_
            refine lv_iload hx hb dX5_says_128 (lv_at hl 0 rfl) ?_
            refine lv_iadd hx hb dX5_says_130 ?_
            refine g_top (y := nI (42 + n)) (nI_add 42 n) ?_
            refine lv_iconst (v := 0) hx hb dX5_says_131 (by decide) ?_
            refine g_iast hx hb hK.1 hP hD hS 2 0 rfl rfl (i := (42 + n)) (by omega) (by decide) dX5_says_132 (fun H locs hP hD hS => ?_)
            have hP : va_P G.1 vwCl (wMd a G.2.1 G.2.2.1 (m.text, m.len, m.pl, m.loss, m.nich, upd (upd (upd (upd (upd (upd m.st (2 + n) p) (10 + n) sp) (18 + n) wa) (26 + n) lo) (34 + n) ((upd (upd (upd (upd m.st (2 + n) p) (10 + n) sp) (18 + n) wa) (26 + n) lo) 0)) (42 + n) 0, dNb m k, dNu m k, m.imgs, m.kept, m.heard, m.hm, m.trail, m.pos, m.wrong, m.items, m.rp, m.rl, m.sl, m.rn, m.read)) H := hP
            have hD : va_D A (wMd a G.2.1 G.2.2.1 (m.text, m.len, m.pl, m.loss, m.nich, upd (upd (upd (upd (upd (upd m.st (2 + n) p) (10 + n) sp) (18 + n) wa) (26 + n) lo) (34 + n) ((upd (upd (upd (upd m.st (2 + n) p) (10 + n) sp) (18 + n) wa) (26 + n) lo) 0)) (42 + n) 0, dNb m k, dNu m k, m.imgs, m.kept, m.heard, m.hm, m.trail, m.pos, m.wrong, m.items, m.rp, m.rl, m.sl, m.rn, m.read)) := hD
            refine lv_aload_n hx hb dX5_says_133 rfl (lv_at hl 1 rfl) ?_
            refine va_get (D := G.1) (ci := 5) (v := .ref (a 2)) (C := RX5) (T := TX5) (N := 21) hx hb hts i_X5_says_X5 hown hK.1 hP 0 rfl rfl 5 (by decide) f20 (fun _ h9 => h9) rfl dX5_says_134 ?_
            refine lv_iconst (v := 1) hx hb dX5_says_137 (by decide) ?_
            refine g_top (y := nI 1) (rfl) ?_
            refine lv_dup2_11 hx hb dX5_says_138 rfl rfl ?_
            refine g_iald hx hb hK.1 hP 2 0 rfl rfl (i := 1) (by omega) (by decide) dX5_says_139 ?_
            refine lv_iconst (v := 1) hx hb dX5_says_140 (by decide) ?_
            refine lv_iadd hx hb dX5_says_141 ?_
            refine g_iast hx hb hK.1 hP hD hS 2 0 rfl rfl (i := 1) (by omega) (by decide) dX5_says_142 (fun H locs hP hD hS => ?_)
            have hP : va_P G.1 vwCl (wMd a G.2.1 G.2.2.1 (m.text, m.len, m.pl, m.loss, m.nich, upd (upd (upd (upd (upd (upd (upd m.st (2 + n) p) (10 + n) sp) (18 + n) wa) (26 + n) lo) (34 + n) ((upd (upd (upd (upd m.st (2 + n) p) (10 + n) sp) (18 + n) wa) (26 + n) lo) 0)) (42 + n) 0) 1 (((upd (upd (upd (upd (upd (upd m.st (2 + n) p) (10 + n) sp) (18 + n) wa) (26 + n) lo) (34 + n) ((upd (upd (upd (upd m.st (2 + n) p) (10 + n) sp) (18 + n) wa) (26 + n) lo) 0)) (42 + n) 0) 1) + 1), dNb m k, dNu m k, m.imgs, m.kept, m.heard, m.hm, m.trail, m.pos, m.wrong, m.items, m.rp, m.rl, m.sl, m.rn, m.read)) H := hP
            have hD : va_D A (wMd a G.2.1 G.2.2.1 (m.text, m.len, m.pl, m.loss, m.nich, upd (upd (upd (upd (upd (upd (upd m.st (2 + n) p) (10 + n) sp) (18 + n) wa) (26 + n) lo) (34 + n) ((upd (upd (upd (upd m.st (2 + n) p) (10 + n) sp) (18 + n) wa) (26 + n) lo) 0)) (42 + n) 0) 1 (((upd (upd (upd (upd (upd (upd m.st (2 + n) p) (10 + n) sp) (18 + n) wa) (26 + n) lo) (34 + n) ((upd (upd (upd (upd m.st (2 + n) p) (10 + n) sp) (18 + n) wa) (26 + n) lo) 0)) (42 + n) 0) 1) + 1), dNb m k, dNu m k, m.imgs, m.kept, m.heard, m.hm, m.trail, m.pos, m.wrong, m.items, m.rp, m.rl, m.sl, m.rn, m.read)) := hD
            refine lv_iload hx hb dX5_says_143 (lv_at hl 0 rfl) ?_
            have hP : va_P G.1 vwCl (wMd a G.2.1 G.2.2.1 (m.text, m.len, m.pl, m.loss, m.nich, ySaSt m n p sp wa lo, ySaB m k p sp wa lo, ySaU m k p sp wa lo, m.imgs, m.kept, m.heard, m.hm, m.trail, m.pos, m.wrong, m.items, m.rp, m.rl, m.sl, m.rn, m.read)) H := by
              rw [ySaSt, ySaB, ySaU] <;> (first | rw [if_pos c_1, if_pos c_1, if_pos c_1] | rw [if_neg c_1, if_neg c_1, if_neg c_1] | rw [if_neg (by rw [c_1]; decide), if_neg (by rw [c_1]; decide), if_neg (by rw [c_1]; decide)] | skip) <;> (first | rw [if_pos c_2, if_pos c_2, if_pos c_2] | rw [if_neg c_2, if_neg c_2, if_neg c_2] | rw [if_neg (by rw [c_2]; decide), if_neg (by rw [c_2]; decide), if_neg (by rw [c_2]; decide)] | skip) <;> (first | rw [if_pos c_3, if_pos c_3, if_pos c_3] | rw [if_neg c_3, if_neg c_3, if_neg c_3] | rw [if_neg (by rw [c_3]; decide), if_neg (by rw [c_3]; decide), if_neg (by rw [c_3]; decide)] | skip) <;> (first | rw [if_pos c_4, if_pos c_4, if_pos c_4] | rw [if_neg c_4, if_neg c_4, if_neg c_4] | rw [if_neg (by rw [c_4]; decide), if_neg (by rw [c_4]; decide), if_neg (by rw [c_4]; decide)] | skip) <;> (first | rw [if_pos c_5, if_pos c_5, if_pos c_5] | rw [if_neg c_5, if_neg c_5, if_neg c_5] | rw [if_neg (by rw [c_5]; decide), if_neg (by rw [c_5]; decide), if_neg (by rw [c_5]; decide)] | skip)
              exact hP
            exact g_wi hx hb hr hlocks hAe hP hS dX5_says_145 (by rw [ySaR] <;> (first | done | rw [if_pos c_1] | rw [if_neg c_1] | rw [if_neg (by rw [c_1]; decide)] | skip) <;> (first | done | rw [if_pos c_2] | rw [if_neg c_2] | rw [if_neg (by rw [c_2]; decide)] | skip) <;> (first | done | rw [if_pos c_3] | rw [if_neg c_3] | rw [if_neg (by rw [c_3]; decide)] | skip) <;> (first | done | rw [if_pos c_4] | rw [if_neg c_4] | rw [if_neg (by rw [c_4]; decide)] | skip) <;> (first | done | rw [if_pos c_5] | rw [if_neg c_5] | rw [if_neg (by rw [c_5]; decide)] | skip) <;> (first | done | rfl | exact hn.symm))
          · skip
            have c_5 : m.st 1 = 8 := by rw [hn]; exact c_5
            refine lv_bipush (v := (-3)) hx hb dX5_says_55 (by decide) ?_
            have hP : va_P G.1 vwCl (wMd a G.2.1 G.2.2.1 (m.text, m.len, m.pl, m.loss, m.nich, ySaSt m n p sp wa lo, ySaB m k p sp wa lo, ySaU m k p sp wa lo, m.imgs, m.kept, m.heard, m.hm, m.trail, m.pos, m.wrong, m.items, m.rp, m.rl, m.sl, m.rn, m.read)) sz.heap := by
              rw [ySaSt, ySaB, ySaU] <;> (first | rw [if_pos c_1, if_pos c_1, if_pos c_1] | rw [if_neg c_1, if_neg c_1, if_neg c_1] | rw [if_neg (by rw [c_1]; decide), if_neg (by rw [c_1]; decide), if_neg (by rw [c_1]; decide)] | skip) <;> (first | rw [if_pos c_2, if_pos c_2, if_pos c_2] | rw [if_neg c_2, if_neg c_2, if_neg c_2] | rw [if_neg (by rw [c_2]; decide), if_neg (by rw [c_2]; decide), if_neg (by rw [c_2]; decide)] | skip) <;> (first | rw [if_pos c_3, if_pos c_3, if_pos c_3] | rw [if_neg c_3, if_neg c_3, if_neg c_3] | rw [if_neg (by rw [c_3]; decide), if_neg (by rw [c_3]; decide), if_neg (by rw [c_3]; decide)] | skip) <;> (first | rw [if_pos c_4, if_pos c_4, if_pos c_4] | rw [if_neg c_4, if_neg c_4, if_neg c_4] | rw [if_neg (by rw [c_4]; decide), if_neg (by rw [c_4]; decide), if_neg (by rw [c_4]; decide)] | skip) <;> (first | rw [if_pos c_5, if_pos c_5, if_pos c_5] | rw [if_neg c_5, if_neg c_5, if_neg c_5] | rw [if_neg (by rw [c_5]; decide), if_neg (by rw [c_5]; decide), if_neg (by rw [c_5]; decide)] | skip)
              exact hP
            exact g_wi hx hb hr hlocks hAe hP hS dX5_says_57 (by rw [ySaR] <;> (first | done | rw [if_pos c_1] | rw [if_neg c_1] | rw [if_neg (by rw [c_1]; decide)] | skip) <;> (first | done | rw [if_pos c_2] | rw [if_neg c_2] | rw [if_neg (by rw [c_2]; decide)] | skip) <;> (first | done | rw [if_pos c_3] | rw [if_neg c_3] | rw [if_neg (by rw [c_3]; decide)] | skip) <;> (first | done | rw [if_pos c_4] | rw [if_neg c_4] | rw [if_neg (by rw [c_4]; decide)] | skip) <;> (first | done | rw [if_pos c_5] | rw [if_neg c_5] | rw [if_neg (by rw [c_5]; decide)] | skip) <;> (first | done | rfl | exact hn.symm))
        · skip
          have c_4 := bI_0 c_4
          refine lv_iconst (v := (-1)) hx hb dX5_says_38 (by decide) ?_
          have hP : va_P G.1 vwCl (wMd a G.2.1 G.2.2.1 (m.text, m.len, m.pl, m.loss, m.nich, ySaSt m n p sp wa lo, ySaB m k p sp wa lo, ySaU m k p sp wa lo, m.imgs, m.kept, m.heard, m.hm, m.trail, m.pos, m.wrong, m.items, m.rp, m.rl, m.sl, m.rn, m.read)) sz.heap := by
            rw [ySaSt, ySaB, ySaU] <;> (first | rw [if_pos c_1, if_pos c_1, if_pos c_1] | rw [if_neg c_1, if_neg c_1, if_neg c_1] | rw [if_neg (by rw [c_1]; decide), if_neg (by rw [c_1]; decide), if_neg (by rw [c_1]; decide)] | skip) <;> (first | rw [if_pos c_2, if_pos c_2, if_pos c_2] | rw [if_neg c_2, if_neg c_2, if_neg c_2] | rw [if_neg (by rw [c_2]; decide), if_neg (by rw [c_2]; decide), if_neg (by rw [c_2]; decide)] | skip) <;> (first | rw [if_pos c_3, if_pos c_3, if_pos c_3] | rw [if_neg c_3, if_neg c_3, if_neg c_3] | rw [if_neg (by rw [c_3]; decide), if_neg (by rw [c_3]; decide), if_neg (by rw [c_3]; decide)] | skip) <;> (first | rw [if_pos c_4, if_pos c_4, if_pos c_4] | rw [if_neg c_4, if_neg c_4, if_neg c_4] | rw [if_neg (by rw [c_4]; decide), if_neg (by rw [c_4]; decide), if_neg (by rw [c_4]; decide)] | skip)
            exact hP
          exact g_wi hx hb hr hlocks hAe hP hS dX5_says_39 (by rw [ySaR] <;> (first | done | rw [if_pos c_1] | rw [if_neg c_1] | rw [if_neg (by rw [c_1]; decide)] | skip) <;> (first | done | rw [if_pos c_2] | rw [if_neg c_2] | rw [if_neg (by rw [c_2]; decide)] | skip) <;> (first | done | rw [if_pos c_3] | rw [if_neg c_3] | rw [if_neg (by rw [c_3]; decide)] | skip) <;> (first | done | rw [if_pos c_4] | rw [if_neg c_4] | rw [if_neg (by rw [c_4]; decide)] | skip) <;> (first | done | rfl | exact hn.symm))

theorem i_X5_hushes_X5 : ∀ w ∈ wsX50, w ∈ wsX5_hushes := by decide +kernel
theorem h_X5_hushes : yX5_hushes.cls = RX5 ∧ yX5_hushes.cls ≠ "java/lang/invoke/MethodHandle" ∧ yX5_hushes.cls ≠ "java/lang/invoke/VarHandle" ∧ (parseMethodDescriptor yX5_hushes.desc).map (fun d => d.parameters.length) = some 1 := by decide +kernel
set_option maxHeartbeats 4000000 in
set_option maxRecDepth 100000 in
theorem c_X5_hushes (lz : Launch) (G : gG) (a : Nat → Nat) (m : MdS) (n k : Nat) (s : Int32) (hn : m.st 1 = nI n) (hn8 : n ≤ 8) (hk : m.undos = nI k) (hk10 : k ≤ 10) (hpl : ¬ m.pl = 0) : gWr lz yX5_hushes wsX5_hushes 3 G [.ref (a 0), .int s] (wMd a G.2.1 G.2.2.1 m) (wMd a G.2.1 G.2.2.1 (m.text, m.len, m.pl, m.loss, m.nich, yHuSt m s, yHuB m k s, yHuU m k s, m.imgs, m.kept, m.heard, m.hm, m.trail, m.pos, m.wrong, m.items, m.rp, m.rl, m.sl, m.rn, m.read)) (some (.int (yHuR m s))) := by
  refine g_wr (by decide) rfl (Nat.le_of_ble_eq_true rfl) ?_
  intro pz ez sz mz bz tz cz hx hb hr hml hown hts hlocks hK A hAe hP hD hS ls hl
  have hl : lv_has ls 3 [(0, .ref (a 0)), (1, .int s)] := hl
  have f20 := hts (.fieldLink RX5 20 "WhisperRingModel" "st" "[I") (by decide +kernel)
  refine lv_aload_n hx hb dX5_hushes_0 rfl (lv_at hl 0 rfl) ?_
  refine lv_iload_n hx hb dX5_hushes_1 rfl (lv_at hl 1 rfl) ?_
  refine g_rdV (As := [.int s]) (rest := []) (nL := 3) hx hb hml hown hts (c_X5_isSaying lz G a m s) gX5_hushes_X5_isSaying rfl h_X5_isSaying ⟨Nat.le_of_ble_eq_true rfl, Nat.le_of_ble_eq_true rfl⟩ hK hP (ci := 5) rfl rfl rfl rfl hl.1 rfl (Nat.le_of_ble_eq_true rfl) ⟨Nat.le_refl _, Nat.le_refl _⟩ dX5_hushes_2 ?_
  refine lv_if_ne (tgt := 10) hx hb dX5_hushes_5 (by decide) (fun c_1 => ?_) (fun c_1 => ?_)
  · skip
    have c_1 := bI_1 c_1
    obtain ⟨hj, hsj⟩ := wIn_nat hn hn8 c_1
    refine lv_aload_n hx hb dX5_hushes_10 rfl (lv_at hl 0 rfl) ?_
    refine lv_iload_n hx hb dX5_hushes_11 rfl (lv_at hl 1 rfl) ?_
    refine g_top (y := nI s.toNatClampNeg) (hsj) ?_
    refine lv_iconst (v := 0) hx hb dX5_hushes_12 (by decide) ?_
    refine g_rdV (As := [.int (nI s.toNatClampNeg), .int 0]) (rest := []) (nL := 3) hx hb hml hown hts (c_X5_strengthOf lz G a m s.toNatClampNeg 0 (by omega) hpl) gX5_hushes_X5_strengthOf rfl h_X5_strengthOf ⟨Nat.le_of_ble_eq_true rfl, Nat.le_of_ble_eq_true rfl⟩ hK hP (ci := 5) rfl rfl rfl rfl hl.1 rfl (Nat.le_of_ble_eq_true rfl) ⟨Nat.le_refl _, Nat.le_refl _⟩ dX5_hushes_13 ?_
    refine lv_istore_n (lv' := [(2, .int (dSt m s.toNatClampNeg 0)), (0, .ref (a 0)), (1, .int s)]) hx hb dX5_hushes_16 rfl hl (by decide) rfl (fun ls hl => ?_)
    refine lv_iload_n hx hb dX5_hushes_17 rfl (lv_at hl 0 rfl) ?_
    refine lv_if_ne (tgt := 24) hx hb dX5_hushes_18 (by decide) (fun c_2 => ?_) (fun c_2 => ?_)
    · skip
      refine lv_aload_n hx hb dX5_hushes_24 rfl (lv_at hl 1 rfl) ?_
      refine g_wrV (As := []) (rest := []) (nL := 3) hx hb hml hown hts (c_X5_notes lz G a m k hk hk10) gX5_hushes_X5_notes rfl h_X5_notes ⟨Nat.le_of_ble_eq_true rfl, Nat.le_of_ble_eq_true rfl⟩ hK hP hD hS [0, 1, 2, 3, 4, 5, 6, 7] rfl rfl rfl (ws1 := wMd a G.2.1 G.2.2.1 (m.text, m.len, m.pl, m.loss, m.nich, m.st, dNb m k, dNu m k, m.imgs, m.kept, m.heard, m.hm, m.trail, m.pos, m.wrong, m.items, m.rp, m.rl, m.sl, m.rn, m.read)) rfl [a 0, a 1, a 2, a 3, a 4, a 5, a 6, a 7] rfl rfl (ci := 5) rfl rfl rfl rfl hl.1 rfl (Nat.le_of_ble_eq_true rfl) ⟨Nat.le_refl _, Nat.le_refl _⟩ dX5_hushes_25 (fun H locs hP hD hS => ?_)
      refine lv_aload_n hx hb dX5_hushes_28 rfl (lv_at hl 1 rfl) ?_
      refine va_get (D := G.1) (ci := 5) (v := .ref (a 2)) (C := RX5) (T := TX5) (N := 21) hx hb hts i_X5_hushes_X5 hown hK.1 hP 0 rfl rfl 5 (by decide) f20 (fun _ h9 => h9) rfl dX5_hushes_29 ?_
      refine lv_bipush (v := 42) hx hb dX5_hushes_32 (by decide) ?_
      refine lv_iload_n hx hb dX5_hushes_34 rfl (lv_at hl 2 rfl) ?_
      refine g_top (y := nI s.toNatClampNeg) (hsj) ?_
      refine lv_iadd hx hb dX5_hushes_35 ?_
      refine g_top (y := nI (42 + s.toNatClampNeg)) (nI_add 42 s.toNatClampNeg) ?_
      refine lv_iconst (v := 1) hx hb dX5_hushes_36 (by decide) ?_
      refine g_iast hx hb hK.1 hP hD hS 2 0 rfl rfl (i := (42 + s.toNatClampNeg)) (by omega) (by decide) dX5_hushes_37 (fun H locs hP hD hS => ?_)
      have hP : va_P G.1 vwCl (wMd a G.2.1 G.2.2.1 (m.text, m.len, m.pl, m.loss, m.nich, upd m.st (42 + s.toNatClampNeg) 1, dNb m k, dNu m k, m.imgs, m.kept, m.heard, m.hm, m.trail, m.pos, m.wrong, m.items, m.rp, m.rl, m.sl, m.rn, m.read)) H := hP
      have hD : va_D A (wMd a G.2.1 G.2.2.1 (m.text, m.len, m.pl, m.loss, m.nich, upd m.st (42 + s.toNatClampNeg) 1, dNb m k, dNu m k, m.imgs, m.kept, m.heard, m.hm, m.trail, m.pos, m.wrong, m.items, m.rp, m.rl, m.sl, m.rn, m.read)) := hD
      refine lv_iload_n hx hb dX5_hushes_38 rfl (lv_at hl 0 rfl) ?_
      have hP : va_P G.1 vwCl (wMd a G.2.1 G.2.2.1 (m.text, m.len, m.pl, m.loss, m.nich, yHuSt m s, yHuB m k s, yHuU m k s, m.imgs, m.kept, m.heard, m.hm, m.trail, m.pos, m.wrong, m.items, m.rp, m.rl, m.sl, m.rn, m.read)) H := by
        rw [yHuSt, yHuB, yHuU] <;> (first | rw [if_pos c_1, if_pos c_1, if_pos c_1] | rw [if_neg c_1, if_neg c_1, if_neg c_1] | rw [if_neg (by rw [c_1]; decide), if_neg (by rw [c_1]; decide), if_neg (by rw [c_1]; decide)] | skip) <;> (first | rw [if_pos c_2, if_pos c_2, if_pos c_2] | rw [if_neg c_2, if_neg c_2, if_neg c_2] | rw [if_neg (by rw [c_2]; decide), if_neg (by rw [c_2]; decide), if_neg (by rw [c_2]; decide)] | skip)
        exact hP
      exact g_wi hx hb hr hlocks hAe hP hS dX5_hushes_39 (by rw [yHuR] <;> (first | done | rw [if_pos c_1] | rw [if_neg c_1] | rw [if_neg (by rw [c_1]; decide)] | skip) <;> (first | done | rw [if_pos c_2] | rw [if_neg c_2] | rw [if_neg (by rw [c_2]; decide)] | skip) <;> (first | done | rfl | (simp only [c_1, c_2]; rfl) | (simp [c_1, c_2, bI]; done)))
    · skip
      refine lv_bipush (v := (-2)) hx hb dX5_hushes_21 (by decide) ?_
      have hP : va_P G.1 vwCl (wMd a G.2.1 G.2.2.1 (m.text, m.len, m.pl, m.loss, m.nich, yHuSt m s, yHuB m k s, yHuU m k s, m.imgs, m.kept, m.heard, m.hm, m.trail, m.pos, m.wrong, m.items, m.rp, m.rl, m.sl, m.rn, m.read)) sz.heap := by
        rw [yHuSt, yHuB, yHuU] <;> (first | rw [if_pos c_1, if_pos c_1, if_pos c_1] | rw [if_neg c_1, if_neg c_1, if_neg c_1] | rw [if_neg (by rw [c_1]; decide), if_neg (by rw [c_1]; decide), if_neg (by rw [c_1]; decide)] | skip) <;> (first | rw [if_pos c_2, if_pos c_2, if_pos c_2] | rw [if_neg c_2, if_neg c_2, if_neg c_2] | rw [if_neg (by rw [c_2]; decide), if_neg (by rw [c_2]; decide), if_neg (by rw [c_2]; decide)] | skip)
        exact hP
      exact g_wi hx hb hr hlocks hAe hP hS dX5_hushes_23 (by rw [yHuR] <;> (first | done | rw [if_pos c_1] | rw [if_neg c_1] | rw [if_neg (by rw [c_1]; decide)] | skip) <;> (first | done | rw [if_pos c_2] | rw [if_neg c_2] | rw [if_neg (by rw [c_2]; decide)] | skip) <;> (first | done | rfl | (simp only [c_1, c_2]; rfl) | (simp [c_1, c_2, bI]; done)))
  · skip
    have c_1 := bI_0 c_1
    refine lv_iconst (v := (-1)) hx hb dX5_hushes_8 (by decide) ?_
    have hP : va_P G.1 vwCl (wMd a G.2.1 G.2.2.1 (m.text, m.len, m.pl, m.loss, m.nich, yHuSt m s, yHuB m k s, yHuU m k s, m.imgs, m.kept, m.heard, m.hm, m.trail, m.pos, m.wrong, m.items, m.rp, m.rl, m.sl, m.rn, m.read)) sz.heap := by
      rw [yHuSt, yHuB, yHuU] <;> (first | rw [if_pos c_1, if_pos c_1, if_pos c_1] | rw [if_neg c_1, if_neg c_1, if_neg c_1] | rw [if_neg (by rw [c_1]; decide), if_neg (by rw [c_1]; decide), if_neg (by rw [c_1]; decide)] | skip)
      exact hP
    exact g_wi hx hb hr hlocks hAe hP hS dX5_hushes_9 (by rw [yHuR] <;> (first | done | rw [if_pos c_1] | rw [if_neg c_1] | rw [if_neg (by rw [c_1]; decide)] | skip) <;> (first | done | rfl | (simp only [c_1]; rfl) | (simp [c_1, bI]; done)))

theorem i_X5_undo_X5 : ∀ w ∈ wsX50, w ∈ wsX5_undo := by decide +kernel
theorem h_X5_undo : yX5_undo.cls = RX5 ∧ yX5_undo.cls ≠ "java/lang/invoke/MethodHandle" ∧ yX5_undo.cls ≠ "java/lang/invoke/VarHandle" ∧ (parseMethodDescriptor yX5_undo.desc).map (fun d => d.parameters.length) = some 0 := by decide +kernel
set_option maxHeartbeats 4000000 in
set_option maxRecDepth 100000 in
theorem c_X5_undo (lz : Launch) (G : gG) (a : Nat → Nat) (m : MdS) (k : Nat) (hk : m.undos = nI k) (hk10 : k ≤ 10) : gWr lz yX5_undo wsX5_undo 1 G [.ref (a 0)] (wMd a G.2.1 G.2.2.1 m) (wMd a G.2.1 G.2.2.1 (m.text, m.len, m.pl, m.loss, m.nich, yUnSt m k, m.book, yUnU m k, m.imgs, m.kept, m.heard, m.hm, m.trail, m.pos, m.wrong, m.items, m.rp, m.rl, m.sl, m.rn, m.read)) (some (.int (if m.undos = 0 then -2 else nI (k - 1)))) := by
  refine g_wr (by decide) rfl (Nat.le_of_ble_eq_true rfl) ?_
  intro pz ez sz mz bz tz cz hx hb hr hml hown hts hlocks hK A hAe hP hD hS ls hl
  have hl : lv_has ls 1 [(0, .ref (a 0))] := hl
  have f20 := hts (.fieldLink RX5 20 "WhisperRingModel" "st" "[I") (by decide +kernel)
  have f23 := hts (.fieldLink RX5 23 "WhisperRingModel" "book" "[I") (by decide +kernel)
  have f95 := hts (.fieldLink RX5 95 "WhisperRingModel" "undos" "I") (by decide +kernel)
  refine lv_aload_n hx hb dX5_undo_0 rfl (lv_at hl 0 rfl) ?_
  refine va_get (D := G.1) (ci := 5) (v := .int m.undos) (C := RX5) (T := TX5) (N := 21) hx hb hts i_X5_undo_X5 hown hK.1 hP 0 rfl rfl 7 (by decide) f95 (fun _ h9 => h9) rfl dX5_undo_1 ?_
  refine lv_if_ne (tgt := 10) hx hb dX5_undo_4 (by decide) (fun c_1 => ?_) (fun c_1 => ?_)
  · skip
    have hk1 : 1 ≤ k := by
      rcases Nat.eq_zero_or_pos k with q | q
      · exact absurd (by rw [hk, q]; rfl) c_1
      · exact q
    refine lv_aload_n hx hb dX5_undo_10 rfl (lv_at hl 0 rfl) ?_
    refine lv_dup hx hb dX5_undo_11 rfl ?_
    refine va_get (D := G.1) (ci := 5) (v := .int m.undos) (C := RX5) (T := TX5) (N := 21) hx hb hts i_X5_undo_X5 hown hK.1 hP 0 rfl rfl 7 (by decide) f95 (fun _ h9 => h9) rfl dX5_undo_12 ?_
    refine lv_iconst (v := 1) hx hb dX5_undo_15 (by decide) ?_
    refine lv_isub hx hb dX5_undo_16 ?_
    refine g_top (y := nI (k - 1)) (by rw [hk]; exact pk_sub (b := 1) hk1) ?_
    refine va_put (D := G.1) (ci := 5) (v := .int (nI (k - 1))) (ty := .int) (C := RX5) (T := TX5) (N := 21) hx hb hts i_X5_undo_X5 tyX5 tyX5_ok nmX5 hown hK.1 hP hD hS 0 rfl rfl 7 (by decide) f95 (fun _ h9 => h9) rfl (by decide +kernel) rfl rfl (Nat.le_of_ble_eq_true rfl) dX5_undo_17 (fun H locs hP hD hS => ?_)
    have hP : va_P G.1 vwCl (wMd a G.2.1 G.2.2.1 (m.text, m.len, m.pl, m.loss, m.nich, m.st, m.book, nI (k - 1), m.imgs, m.kept, m.heard, m.hm, m.trail, m.pos, m.wrong, m.items, m.rp, m.rl, m.sl, m.rn, m.read)) H := hP
    have hD : va_D A (wMd a G.2.1 G.2.2.1 (m.text, m.len, m.pl, m.loss, m.nich, m.st, m.book, nI (k - 1), m.imgs, m.kept, m.heard, m.hm, m.trail, m.pos, m.wrong, m.items, m.rp, m.rl, m.sl, m.rn, m.read)) := hD
    refine lv_aload_n hx hb dX5_undo_20 rfl (lv_at hl 0 rfl) ?_
    refine va_get (D := G.1) (ci := 5) (v := .ref (a 3)) (C := RX5) (T := TX5) (N := 21) hx hb hts i_X5_undo_X5 hown hK.1 hP 0 rfl rfl 6 (by decide) f23 (fun _ h9 => h9) rfl dX5_undo_21 ?_
    refine lv_bipush (v := 50) hx hb dX5_undo_24 (by decide) ?_
    refine lv_aload_n hx hb dX5_undo_26 rfl (lv_at hl 0 rfl) ?_
    refine va_get (D := G.1) (ci := 5) (v := .int (nI (k - 1))) (C := RX5) (T := TX5) (N := 21) hx hb hts i_X5_undo_X5 hown hK.1 hP 0 rfl rfl 7 (by decide) f95 (fun _ h9 => h9) rfl dX5_undo_27 ?_
    refine lv_imul hx hb dX5_undo_30 ?_
    refine g_top (y := nI (50 * (k - 1))) (pk_mul 50 (k - 1)) ?_
    refine lv_aload_n hx hb dX5_undo_31 rfl (lv_at hl 0 rfl) ?_
    refine va_get (D := G.1) (ci := 5) (v := .ref (a 2)) (C := RX5) (T := TX5) (N := 21) hx hb hts i_X5_undo_X5 hown hK.1 hP 0 rfl rfl 5 (by decide) f20 (fun _ h9 => h9) rfl dX5_undo_32 ?_
    refine lv_iconst (v := 0) hx hb dX5_undo_35 (by decide) ?_
    refine lv_bipush (v := 50) hx hb dX5_undo_36 (by decide) ?_
    refine g_wrS (As := [.ref (a 3), .int (nI (50 * (k - 1))), .ref (a 2), .int 0, .int 50]) (rest := []) (nL := 1) hx hb hml hown hts (c_X5_bring lz G (a 3) (a 2) 500 50 (50 * (k - 1)) 0 50 m.book m.st (by omega) (by omega) (by decide) (by decide)) gX5_undo_X5_bring rfl h_X5_bring ⟨Nat.le_of_ble_eq_true rfl, Nat.le_of_ble_eq_true rfl⟩ hK hP hD hS [3, 2] rfl rfl rfl (ws1 := wMd a G.2.1 G.2.2.1 (m.text, m.len, m.pl, m.loss, m.nich, va_cpy m.book m.st (50 * (k - 1)) 0 50, m.book, nI (k - 1), m.imgs, m.kept, m.heard, m.hm, m.trail, m.pos, m.wrong, m.items, m.rp, m.rl, m.sl, m.rn, m.read)) rfl [a 0, a 1, a 2, a 3, a 4, a 5, a 6, a 7] rfl rfl rfl hl.1 rfl (Nat.le_of_ble_eq_true rfl) ⟨Nat.le_refl _, Nat.le_refl _⟩ dX5_undo_38 (fun H locs hP hD hS => ?_)
    refine lv_aload_n hx hb dX5_undo_41 rfl (lv_at hl 0 rfl) ?_
    refine va_get (D := G.1) (ci := 5) (v := .int (nI (k - 1))) (C := RX5) (T := TX5) (N := 21) hx hb hts i_X5_undo_X5 hown hK.1 hP 0 rfl rfl 7 (by decide) f95 (fun _ h9 => h9) rfl dX5_undo_42 ?_
    have hP : va_P G.1 vwCl (wMd a G.2.1 G.2.2.1 (m.text, m.len, m.pl, m.loss, m.nich, yUnSt m k, m.book, yUnU m k, m.imgs, m.kept, m.heard, m.hm, m.trail, m.pos, m.wrong, m.items, m.rp, m.rl, m.sl, m.rn, m.read)) H := by
      rw [yUnSt, yUnU] <;> (first | rw [if_pos c_1, if_pos c_1] | rw [if_neg c_1, if_neg c_1] | rw [if_neg (by rw [c_1]; decide), if_neg (by rw [c_1]; decide)] | skip)
      exact hP
    exact g_wi hx hb hr hlocks hAe hP hS dX5_undo_45 (by (first | done | rw [if_pos c_1] | rw [if_neg c_1] | rw [if_neg (by rw [c_1]; decide)] | skip) <;> (first | done | rfl))
  · skip
    refine lv_bipush (v := (-2)) hx hb dX5_undo_7 (by decide) ?_
    have hP : va_P G.1 vwCl (wMd a G.2.1 G.2.2.1 (m.text, m.len, m.pl, m.loss, m.nich, yUnSt m k, m.book, yUnU m k, m.imgs, m.kept, m.heard, m.hm, m.trail, m.pos, m.wrong, m.items, m.rp, m.rl, m.sl, m.rn, m.read)) sz.heap := by
      rw [yUnSt, yUnU] <;> (first | rw [if_pos c_1, if_pos c_1] | rw [if_neg c_1, if_neg c_1] | rw [if_neg (by rw [c_1]; decide), if_neg (by rw [c_1]; decide)] | skip)
      exact hP
    exact g_wi hx hb hr hlocks hAe hP hS dX5_undo_9 (by (first | done | rw [if_pos c_1] | rw [if_neg c_1] | rw [if_neg (by rw [c_1]; decide)] | skip) <;> (first | done | rfl))

theorem i_X5_placesThat_X5 : ∀ w ∈ wsX50, w ∈ wsX5_placesThat := by decide +kernel
theorem h_X5_placesThat : yX5_placesThat.cls = RX5 ∧ yX5_placesThat.cls ≠ "java/lang/invoke/MethodHandle" ∧ yX5_placesThat.cls ≠ "java/lang/invoke/VarHandle" ∧ (parseMethodDescriptor yX5_placesThat.desc).map (fun d => d.parameters.length) = some 1 := by decide +kernel
set_option maxHeartbeats 4000000 in
set_option maxRecDepth 100000 in
theorem c_X5_placesThat (lz : Launch) (G : gG) (a : Nat → Nat) (m : MdS) (n N : Nat) (b : Bool) (hN : m.pl = nI N) (hN24 : N ≤ 24) (hn : m.st 1 = nI n) (hn8 : n ≤ 8) (hpl : ¬ m.pl = 0) : gRd lz yX5_placesThat wsX5_placesThat 5 G [.ref (a 0), .int (bI b)] (wMd a G.2.1 G.2.2.1 m) (nI (dTh m n N b)) := by
  refine g_rd (by decide) rfl (Nat.le_of_ble_eq_true rfl) ?_
  intro pz ez sz mz bz tz cz hx hb hr hml hown hts hlocks hP hK ls hl
  have hl : lv_has ls 5 [(0, .ref (a 0)), (1, .int (bI b))] := hl
  have f13 := hts (.fieldLink RX5 13 "WhisperRingModel" "places" "I") (by decide +kernel)
  refine lv_iconst (v := 0) hx hb dX5_placesThat_0 (by decide) ?_
  refine lv_istore_n (lv' := [(2, .int 0), (0, .ref (a 0)), (1, .int (bI b))]) hx hb dX5_placesThat_1 rfl hl (by decide) rfl (fun ls hl => ?_)
  refine lv_iconst (v := 0) hx hb dX5_placesThat_2 (by decide) ?_
  refine lv_istore_n (lv' := [(3, .int 0), (2, .int 0), (0, .ref (a 0)), (1, .int (bI b))]) hx hb dX5_placesThat_3 rfl hl (by decide) rfl (fun ls hl => ?_)
  have lp_4 : ∀ (fu_4 : Nat) (i : Nat) (x : Nat), (i ≤ N) → (x = cntOf (fun p => !decide (dSn m n (nI p) 0 = 0) && (!b || decide (dCl m n (dSn m n (nI p) 0) 0 = -9))) i) → N - i < fu_4 → ∀ ls : Array Slot, lv_has ls 5 [(0, .ref (a 0)), (1, .int (bI b)), (2, .int (nI x)), (3, .int (nI i))] → W pz lz ez (gRm 5) sz mz ([.ref (a 0), .int (bI b)] : List Value).toArray bz tz cz sz.heap [] 0 0 (MQ bz (vp_Si (fun xx_ => xx_ = nI (dTh m n N b))) ([.ref (a 0), .int (bI b)] : List Value).toArray sz 0 0 (fun _ => False)) (F0 mz 4 ls []) := by
    intro fu_4
    induction fu_4 with
    | zero =>
      intro i x hi hac hf_4
      exact absurd hf_4 (Nat.not_lt_zero _)
    | succ fu_4 ih_4 =>
      intro i x hi hac hf_4 ls hl
      refine lv_iload_n hx hb dX5_placesThat_4 rfl (lv_at hl 3 rfl) ?_
      refine lv_aload_n hx hb dX5_placesThat_5 rfl (lv_at hl 0 rfl) ?_
      refine va_get (D := G.1) (ci := 5) (v := .int m.pl) (C := RX5) (T := TX5) (N := 21) hx hb hts i_X5_placesThat_X5 hown hK.1 hP 0 rfl rfl 2 (by decide) f13 (fun _ h9 => h9) rfl dX5_placesThat_6 ?_
      refine lv_icmp_ge (tgt := 55) hx hb dX5_placesThat_9 (by decide) (fun c_1 => ?_) (fun c_1 => ?_)
      · skip
        have c_1 := gl_le c_1
        have hx2 : N ≤ i := gl_ex hN (by omega) (by omega) c_1
        refine lv_iload_n hx hb dX5_placesThat_55 rfl (lv_at hl 2 rfl) ?_
        exact g_ri hx hb hr hlocks dX5_placesThat_56 (by rw [hac, show i = N by omega]; rfl)
      · skip
        have c_1 := gl_nle c_1
        have hlt : i < N := gl_in hN (by omega) (by omega) c_1
        refine lv_aload_n hx hb dX5_placesThat_12 rfl (lv_at hl 0 rfl) ?_
        refine lv_iload_n hx hb dX5_placesThat_13 rfl (lv_at hl 3 rfl) ?_
        refine lv_iconst (v := 0) hx hb dX5_placesThat_14 (by decide) ?_
        refine g_rdV (As := [.int (nI i), .int 0]) (rest := []) (nL := 5) hx hb hml hown hts (c_X5_soundsOf lz G a m n (nI i) 0 hn hn8 hpl) gX5_placesThat_X5_soundsOf rfl h_X5_soundsOf ⟨Nat.le_of_ble_eq_true rfl, Nat.le_of_ble_eq_true rfl⟩ hK hP (ci := 5) rfl rfl rfl rfl hl.1 rfl (Nat.le_of_ble_eq_true rfl) ⟨Nat.le_refl _, Nat.le_refl _⟩ dX5_placesThat_15 ?_
        refine lv_istore (lv' := [(4, .int (dSn m n (nI i) 0)), (0, .ref (a 0)), (1, .int (bI b)), (2, .int (nI x)), (3, .int (nI i))]) hx hb dX5_placesThat_18 hl (by decide) rfl (fun ls hl => ?_)
        refine lv_iload_n hx hb dX5_placesThat_20 rfl (lv_at hl 3 rfl) ?_
        refine lv_iload hx hb dX5_placesThat_21 (lv_at hl 0 rfl) ?_
        refine lv_if_eq (tgt := 46) hx hb dX5_placesThat_23 (by decide) (fun c_2 => ?_) (fun c_2 => ?_)
        · skip
          refine lv_iconst (v := 0) hx hb dX5_placesThat_46 (by decide) ?_
          refine lv_iadd hx hb dX5_placesThat_47 ?_
          refine g_top (y := nI (x + 0)) (nI_add x 0) ?_
          refine lv_istore_n (lv' := [(2, .int (nI (x + 0))), (4, .int (dSn m n (nI i) 0)), (0, .ref (a 0)), (1, .int (bI b)), (3, .int (nI i))]) hx hb dX5_placesThat_48 rfl hl (by decide) rfl (fun ls hl => ?_)
          refine lv_iinc (v := nI (i + 1)) (lv' := [(3, .int (nI (i + 1))), (2, .int (nI (x + 0))), (4, .int (dSn m n (nI i) 0)), (0, .ref (a 0)), (1, .int (bI b))]) hx hb dX5_placesThat_49 hl (k := 4) rfl (nI_1 i) (by decide) rfl (fun ls hl => ?_)
          refine lv_goto (tgt := 4) hx hb dX5_placesThat_52 (by decide) ?_
          exact ih_4 (i + 1) (x + 0) hlt (cO_n hac (by simp [c_2])) (by omega) ls (lv_sub hl [3, 4, 1, 0] rfl)
        · skip
          refine lv_iload_n hx hb dX5_placesThat_26 rfl (lv_at hl 2 rfl) ?_
          refine lv_if_eq (tgt := 42) hx hb dX5_placesThat_27 (by decide) (fun c_3 => ?_) (fun c_3 => ?_)
          · skip
            have c_3 := bI_0 c_3
            refine lv_iconst (v := 1) hx hb dX5_placesThat_42 (by decide) ?_
            refine lv_goto (tgt := 47) hx hb dX5_placesThat_43 (by decide) ?_
            refine lv_iadd hx hb dX5_placesThat_47 ?_
            refine g_top (y := nI (x + 1)) (nI_add x 1) ?_
            refine lv_istore_n (lv' := [(2, .int (nI (x + 1))), (4, .int (dSn m n (nI i) 0)), (0, .ref (a 0)), (1, .int (bI b)), (3, .int (nI i))]) hx hb dX5_placesThat_48 rfl hl (by decide) rfl (fun ls hl => ?_)
            refine lv_iinc (v := nI (i + 1)) (lv' := [(3, .int (nI (i + 1))), (2, .int (nI (x + 1))), (4, .int (dSn m n (nI i) 0)), (0, .ref (a 0)), (1, .int (bI b))]) hx hb dX5_placesThat_49 hl (k := 4) rfl (nI_1 i) (by decide) rfl (fun ls hl => ?_)
            refine lv_goto (tgt := 4) hx hb dX5_placesThat_52 (by decide) ?_
            exact ih_4 (i + 1) (x + 1) hlt (cO_y hac (by simp [c_2, c_3])) (by omega) ls (lv_sub hl [3, 4, 1, 0] rfl)
          · skip
            have c_3 := bI_1 c_3
            refine lv_aload_n hx hb dX5_placesThat_30 rfl (lv_at hl 1 rfl) ?_
            refine lv_iload hx hb dX5_placesThat_31 (lv_at hl 0 rfl) ?_
            refine lv_iconst (v := 0) hx hb dX5_placesThat_33 (by decide) ?_
            refine g_rdV (As := [.int (dSn m n (nI i) 0), .int 0]) (rest := [.int (nI x)]) (nL := 5) hx hb hml hown hts (c_X5_clearOf lz G a m n (dSn m n (nI i) 0) 0 hn hn8 hpl) gX5_placesThat_X5_clearOf rfl h_X5_clearOf ⟨Nat.le_of_ble_eq_true rfl, Nat.le_of_ble_eq_true rfl⟩ hK hP (ci := 5) rfl rfl rfl rfl hl.1 rfl (Nat.le_of_ble_eq_true rfl) ⟨Nat.le_refl _, Nat.le_refl _⟩ dX5_placesThat_34 ?_
            refine lv_bipush (v := (-9)) hx hb dX5_placesThat_37 (by decide) ?_
            refine lv_icmp_ne (tgt := 46) hx hb dX5_placesThat_39 (by decide) (fun c_4 => ?_) (fun c_4 => ?_)
            · skip
              refine lv_iconst (v := 0) hx hb dX5_placesThat_46 (by decide) ?_
              refine lv_iadd hx hb dX5_placesThat_47 ?_
              refine g_top (y := nI (x + 0)) (nI_add x 0) ?_
              refine lv_istore_n (lv' := [(2, .int (nI (x + 0))), (4, .int (dSn m n (nI i) 0)), (0, .ref (a 0)), (1, .int (bI b)), (3, .int (nI i))]) hx hb dX5_placesThat_48 rfl hl (by decide) rfl (fun ls hl => ?_)
              refine lv_iinc (v := nI (i + 1)) (lv' := [(3, .int (nI (i + 1))), (2, .int (nI (x + 0))), (4, .int (dSn m n (nI i) 0)), (0, .ref (a 0)), (1, .int (bI b))]) hx hb dX5_placesThat_49 hl (k := 4) rfl (nI_1 i) (by decide) rfl (fun ls hl => ?_)
              refine lv_goto (tgt := 4) hx hb dX5_placesThat_52 (by decide) ?_
              exact ih_4 (i + 1) (x + 0) hlt (cO_n hac (by simp [c_2, c_3, c_4])) (by omega) ls (lv_sub hl [3, 4, 1, 0] rfl)
            · skip
              refine lv_iconst (v := 1) hx hb dX5_placesThat_42 (by decide) ?_
              refine lv_goto (tgt := 47) hx hb dX5_placesThat_43 (by decide) ?_
              refine lv_iadd hx hb dX5_placesThat_47 ?_
              refine g_top (y := nI (x + 1)) (nI_add x 1) ?_
              refine lv_istore_n (lv' := [(2, .int (nI (x + 1))), (4, .int (dSn m n (nI i) 0)), (0, .ref (a 0)), (1, .int (bI b)), (3, .int (nI i))]) hx hb dX5_placesThat_48 rfl hl (by decide) rfl (fun ls hl => ?_)
              refine lv_iinc (v := nI (i + 1)) (lv' := [(3, .int (nI (i + 1))), (2, .int (nI (x + 1))), (4, .int (dSn m n (nI i) 0)), (0, .ref (a 0)), (1, .int (bI b))]) hx hb dX5_placesThat_49 hl (k := 4) rfl (nI_1 i) (by decide) rfl (fun ls hl => ?_)
              refine lv_goto (tgt := 4) hx hb dX5_placesThat_52 (by decide) ?_
              exact ih_4 (i + 1) (x + 1) hlt (cO_y hac (by simp [c_2, c_3, c_4])) (by omega) ls (lv_sub hl [3, 4, 1, 0] rfl)
  exact lp_4 ((N - 0) + 1) 0 0 (Nat.zero_le _) rfl (Nat.lt_succ_self _) ls (lv_sub hl [2, 3, 1, 0] rfl)

theorem i_X5_now_X5 : ∀ w ∈ wsX50, w ∈ wsX5_now := by decide +kernel
theorem h_X5_now : yX5_now.cls = RX5 ∧ yX5_now.cls ≠ "java/lang/invoke/MethodHandle" ∧ yX5_now.cls ≠ "java/lang/invoke/VarHandle" ∧ (parseMethodDescriptor yX5_now.desc).map (fun d => d.parameters.length) = some 1 := by decide +kernel
set_option maxHeartbeats 4000000 in
set_option maxRecDepth 100000 in
theorem c_X5_now (lz : Launch) (G : gG) (a : Nat → Nat) (m : MdS) (n N : Nat) (what : Int32) (hN : m.pl = nI N) (hN24 : N ≤ 24) (hn : m.st 1 = nI n) (hn8 : n ≤ 8) (hpl : ¬ m.pl = 0) : gRd lz yX5_now wsX5_now 6 G [.ref (a 0), .int what] (wMd a G.2.1 G.2.2.1 m) (yNoR m n N what) := by
  refine g_rd (by decide) rfl (Nat.le_of_ble_eq_true rfl) ?_
  intro pz ez sz mz bz tz cz hx hb hr hml hown hts hlocks hP hK ls hl
  have hl : lv_has ls 2 [(0, .ref (a 0)), (1, .int what)] := hl
  have f20 := hts (.fieldLink RX5 20 "WhisperRingModel" "st" "[I") (by decide +kernel)
  refine lv_iload_n hx hb dX5_now_0 rfl (lv_at hl 1 rfl) ?_
  by_cases k_1 : what = 0
  · refine lv_tableIn (tgt := 36) hx hb dX5_now_1 (by rw [k_1]; decide) (by rw [k_1]; decide) (by rw [k_1]; rfl) (by decide) ?_
    refine lv_aload_n hx hb dX5_now_36 rfl (lv_at hl 0 rfl) ?_
    refine va_get (D := G.1) (ci := 5) (v := .ref (a 2)) (C := RX5) (T := TX5) (N := 21) hx hb hts i_X5_now_X5 hown hK.1 hP 0 rfl rfl 5 (by decide) f20 (fun _ h9 => h9) rfl dX5_now_37 ?_
    refine lv_iconst (v := 0) hx hb dX5_now_40 (by decide) ?_
    refine g_top (y := nI 0) rfl ?_
    refine g_iald hx hb hK.1 hP 2 0 rfl rfl (i := 0) (by omega) (by decide) dX5_now_41 ?_
    exact g_ri hx hb hr hlocks dX5_now_42 (by rw [yNoR] <;> (first | done | rw [if_pos k_1] | rw [if_neg k_1] | rw [if_neg (by rw [k_1]; decide)] | skip) <;> (first | done | rfl | (simp only [k_1]; rfl) | (simp [k_1, bI]; done)))
  · skip
    by_cases k_2 : what = 1
    · refine lv_tableIn (tgt := 43) hx hb dX5_now_1 (by rw [k_2]; decide) (by rw [k_2]; decide) (by rw [k_2]; rfl) (by decide) ?_
      refine lv_aload_n hx hb dX5_now_43 rfl (lv_at hl 0 rfl) ?_
      refine g_rdV (As := []) (rest := []) (nL := 2) hx hb hml hown hts (c_X5_alive lz G a m n hn hn8 hpl) gX5_now_X5_alive rfl h_X5_alive ⟨Nat.le_of_ble_eq_true rfl, Nat.le_of_ble_eq_true rfl⟩ hK hP (ci := 5) rfl rfl rfl rfl hl.1 rfl (Nat.le_of_ble_eq_true rfl) ⟨Nat.le_refl _, Nat.le_refl _⟩ dX5_now_44 ?_
      exact g_ri hx hb hr hlocks dX5_now_47 (by rw [yNoR] <;> (first | done | rw [if_pos k_1] | rw [if_neg k_1] | rw [if_neg (by rw [k_1]; decide)] | skip) <;> (first | done | rw [if_pos k_2] | rw [if_neg k_2] | rw [if_neg (by rw [k_2]; decide)] | skip) <;> (first | done | rfl | (simp only [k_1, k_2]; rfl) | (simp [k_1, k_2, bI]; done)))
    · skip
      by_cases k_3 : what = 2
      · refine lv_tableIn (tgt := 48) hx hb dX5_now_1 (by rw [k_3]; decide) (by rw [k_3]; decide) (by rw [k_3]; rfl) (by decide) ?_
        refine lv_aload_n hx hb dX5_now_48 rfl (lv_at hl 0 rfl) ?_
        refine lv_aload_n hx hb dX5_now_49 rfl (lv_at hl 0 rfl) ?_
        refine g_rdV (As := []) (rest := [.ref (a 0)]) (nL := 2) hx hb hml hown hts (c_X5_alive lz G a m n hn hn8 hpl) gX5_now_X5_alive rfl h_X5_alive ⟨Nat.le_of_ble_eq_true rfl, Nat.le_of_ble_eq_true rfl⟩ hK hP (ci := 5) rfl rfl rfl rfl hl.1 rfl (Nat.le_of_ble_eq_true rfl) ⟨Nat.le_refl _, Nat.le_refl _⟩ dX5_now_50 ?_
        refine lv_iconst (v := 0) hx hb dX5_now_53 (by decide) ?_
        refine g_rdV (As := [.int (dAl m n), .int 0]) (rest := []) (nL := 2) hx hb hml hown hts (c_X5_loudOf lz G a m n (dAl m n) 0 hn hn8 hpl) gX5_now_X5_loudOf rfl h_X5_loudOf ⟨Nat.le_of_ble_eq_true rfl, Nat.le_of_ble_eq_true rfl⟩ hK hP (ci := 5) rfl rfl rfl rfl hl.1 rfl (Nat.le_of_ble_eq_true rfl) ⟨Nat.le_refl _, Nat.le_refl _⟩ dX5_now_54 ?_
        exact g_ri hx hb hr hlocks dX5_now_57 (by rw [yNoR] <;> (first | done | rw [if_pos k_1] | rw [if_neg k_1] | rw [if_neg (by rw [k_1]; decide)] | skip) <;> (first | done | rw [if_pos k_2] | rw [if_neg k_2] | rw [if_neg (by rw [k_2]; decide)] | skip) <;> (first | done | rw [if_pos k_3] | rw [if_neg k_3] | rw [if_neg (by rw [k_3]; decide)] | skip) <;> (first | done | rfl | (simp only [k_1, k_2, k_3]; rfl) | (simp [k_1, k_2, k_3, bI]; done)))
      · skip
        by_cases k_4 : what = 3
        · refine lv_tableIn (tgt := 58) hx hb dX5_now_1 (by rw [k_4]; decide) (by rw [k_4]; decide) (by rw [k_4]; rfl) (by decide) ?_
          refine lv_aload_n hx hb dX5_now_58 rfl (lv_at hl 0 rfl) ?_
          refine lv_iconst (v := 0) hx hb dX5_now_59 (by decide) ?_
          refine g_rdV (As := [.int 0]) (rest := []) (nL := 2) hx hb hml hown hts (c_X5_placesThat lz G a m n N false hN hN24 hn hn8 hpl) gX5_now_X5_placesThat rfl h_X5_placesThat ⟨Nat.le_of_ble_eq_true rfl, Nat.le_of_ble_eq_true rfl⟩ hK hP (ci := 5) rfl rfl rfl rfl hl.1 rfl (Nat.le_of_ble_eq_true rfl) ⟨Nat.le_refl _, Nat.le_refl _⟩ dX5_now_60 ?_
          exact g_ri hx hb hr hlocks dX5_now_63 (by rw [yNoR] <;> (first | done | rw [if_pos k_1] | rw [if_neg k_1] | rw [if_neg (by rw [k_1]; decide)] | skip) <;> (first | done | rw [if_pos k_2] | rw [if_neg k_2] | rw [if_neg (by rw [k_2]; decide)] | skip) <;> (first | done | rw [if_pos k_3] | rw [if_neg k_3] | rw [if_neg (by rw [k_3]; decide)] | skip) <;> (first | done | rw [if_pos k_4] | rw [if_neg k_4] | rw [if_neg (by rw [k_4]; decide)] | skip) <;> (first | done | rfl | (simp only [k_1, k_2, k_3, k_4]; rfl) | (simp [k_1, k_2, k_3, k_4, bI]; done)))
        · skip
          by_cases k_5 : what = 4
          · refine lv_tableIn (tgt := 64) hx hb dX5_now_1 (by rw [k_5]; decide) (by rw [k_5]; decide) (by rw [k_5]; rfl) (by decide) ?_
            refine lv_aload_n hx hb dX5_now_64 rfl (lv_at hl 0 rfl) ?_
            refine lv_iconst (v := 1) hx hb dX5_now_65 (by decide) ?_
            refine g_rdV (As := [.int 1]) (rest := []) (nL := 2) hx hb hml hown hts (c_X5_placesThat lz G a m n N true hN hN24 hn hn8 hpl) gX5_now_X5_placesThat rfl h_X5_placesThat ⟨Nat.le_of_ble_eq_true rfl, Nat.le_of_ble_eq_true rfl⟩ hK hP (ci := 5) rfl rfl rfl rfl hl.1 rfl (Nat.le_of_ble_eq_true rfl) ⟨Nat.le_refl _, Nat.le_refl _⟩ dX5_now_66 ?_
            exact g_ri hx hb hr hlocks dX5_now_69 (by rw [yNoR] <;> (first | done | rw [if_pos k_1] | rw [if_neg k_1] | rw [if_neg (by rw [k_1]; decide)] | skip) <;> (first | done | rw [if_pos k_2] | rw [if_neg k_2] | rw [if_neg (by rw [k_2]; decide)] | skip) <;> (first | done | rw [if_pos k_3] | rw [if_neg k_3] | rw [if_neg (by rw [k_3]; decide)] | skip) <;> (first | done | rw [if_pos k_4] | rw [if_neg k_4] | rw [if_neg (by rw [k_4]; decide)] | skip) <;> (first | done | rw [if_pos k_5] | rw [if_neg k_5] | rw [if_neg (by rw [k_5]; decide)] | skip) <;> (first | done | rfl | (simp only [k_1, k_2, k_3, k_4, k_5]; rfl) | (simp [k_1, k_2, k_3, k_4, k_5, bI]; done)))
          · skip
            refine lv_tableOut (tgt := 70) hx hb dX5_now_1 (by have n0 := lv_neT k_1 (a := 0) (by decide); have n1 := lv_neT k_2 (a := 1) (by decide); have n2 := lv_neT k_3 (a := 2) (by decide); have n3 := lv_neT k_4 (a := 3) (by decide); have n4 := lv_neT k_5 (a := 4) (by decide); omega) (by decide) ?_
            refine lv_iconst (v := (-1)) hx hb dX5_now_70 (by decide) ?_
            exact g_ri hx hb hr hlocks dX5_now_71 (by rw [yNoR] <;> (first | done | rw [if_pos k_1] | rw [if_neg k_1] | rw [if_neg (by rw [k_1]; decide)] | skip) <;> (first | done | rw [if_pos k_2] | rw [if_neg k_2] | rw [if_neg (by rw [k_2]; decide)] | skip) <;> (first | done | rw [if_pos k_3] | rw [if_neg k_3] | rw [if_neg (by rw [k_3]; decide)] | skip) <;> (first | done | rw [if_pos k_4] | rw [if_neg k_4] | rw [if_neg (by rw [k_4]; decide)] | skip) <;> (first | done | rw [if_pos k_5] | rw [if_neg k_5] | rw [if_neg (by rw [k_5]; decide)] | skip) <;> (first | done | rfl | (simp only [k_1, k_2, k_3, k_4, k_5]; rfl) | (simp [k_1, k_2, k_3, k_4, k_5, bI]; done)))
