def mTx (m : MdS) (v : Nat → Int32) : MdS := (v, m.len, m.pl, m.loss, m.nich, m.st, m.book, m.undos, m.imgs, m.kept, m.heard, m.hm, m.trail, m.pos, m.wrong, m.items, m.rp, m.rl, m.sl, m.rn, m.read)
def mLn (m : MdS) (v : Int32) : MdS := (m.text, v, m.pl, m.loss, m.nich, m.st, m.book, m.undos, m.imgs, m.kept, m.heard, m.hm, m.trail, m.pos, m.wrong, m.items, m.rp, m.rl, m.sl, m.rn, m.read)
def mPl (m : MdS) (v : Int32) : MdS := (m.text, m.len, v, m.loss, m.nich, m.st, m.book, m.undos, m.imgs, m.kept, m.heard, m.hm, m.trail, m.pos, m.wrong, m.items, m.rp, m.rl, m.sl, m.rn, m.read)
def mLo (m : MdS) (v : Int32) : MdS := (m.text, m.len, m.pl, v, m.nich, m.st, m.book, m.undos, m.imgs, m.kept, m.heard, m.hm, m.trail, m.pos, m.wrong, m.items, m.rp, m.rl, m.sl, m.rn, m.read)
def mNi (m : MdS) (v : Int32) : MdS := (m.text, m.len, m.pl, m.loss, v, m.st, m.book, m.undos, m.imgs, m.kept, m.heard, m.hm, m.trail, m.pos, m.wrong, m.items, m.rp, m.rl, m.sl, m.rn, m.read)
def mSt (m : MdS) (v : Nat → Int32) : MdS := (m.text, m.len, m.pl, m.loss, m.nich, v, m.book, m.undos, m.imgs, m.kept, m.heard, m.hm, m.trail, m.pos, m.wrong, m.items, m.rp, m.rl, m.sl, m.rn, m.read)
def mBk (m : MdS) (v : Nat → Int32) : MdS := (m.text, m.len, m.pl, m.loss, m.nich, m.st, v, m.undos, m.imgs, m.kept, m.heard, m.hm, m.trail, m.pos, m.wrong, m.items, m.rp, m.rl, m.sl, m.rn, m.read)
def mUn (m : MdS) (v : Int32) : MdS := (m.text, m.len, m.pl, m.loss, m.nich, m.st, m.book, v, m.imgs, m.kept, m.heard, m.hm, m.trail, m.pos, m.wrong, m.items, m.rp, m.rl, m.sl, m.rn, m.read)
def mIm (m : MdS) (v : Nat → Int32) : MdS := (m.text, m.len, m.pl, m.loss, m.nich, m.st, m.book, m.undos, v, m.kept, m.heard, m.hm, m.trail, m.pos, m.wrong, m.items, m.rp, m.rl, m.sl, m.rn, m.read)
def mKe (m : MdS) (v : Nat → Int32) : MdS := (m.text, m.len, m.pl, m.loss, m.nich, m.st, m.book, m.undos, m.imgs, v, m.heard, m.hm, m.trail, m.pos, m.wrong, m.items, m.rp, m.rl, m.sl, m.rn, m.read)
def mHe (m : MdS) (v : Nat → Int32) : MdS := (m.text, m.len, m.pl, m.loss, m.nich, m.st, m.book, m.undos, m.imgs, m.kept, v, m.hm, m.trail, m.pos, m.wrong, m.items, m.rp, m.rl, m.sl, m.rn, m.read)
def mHm (m : MdS) (v : Int32) : MdS := (m.text, m.len, m.pl, m.loss, m.nich, m.st, m.book, m.undos, m.imgs, m.kept, m.heard, v, m.trail, m.pos, m.wrong, m.items, m.rp, m.rl, m.sl, m.rn, m.read)
noncomputable def dEndD (m : MdS) : MdS := if m.wrong < 0 then (if dHere (dSkp m) = 59 then mIt (mPos (dSkp m) ((dSkp m).pos + 1)) ((mPos (dSkp m) ((dSkp m).pos + 1)).items + 1) else mWr (dSkp m) (dSkp m).pos) else m
theorem dEnd_ex : ∃ f : MdS → MdS, ∀ m, f m = dEndD m := ⟨dEndD, fun _ => rfl⟩
noncomputable def dEnd : MdS → MdS := Classical.choose dEnd_ex
theorem dEnd_def (m : MdS) : dEnd m = dEndD m := Classical.choose_spec dEnd_ex m
theorem dOK_pos {m : MdS} {v : Int32} {Z x : Nat} (hZ : Z ≤ 120) (hx : x ≤ Z) (hz : m.len = nI Z) (hv : v = nI x) : dOK (mPos m v) := ⟨Z, x, hZ, hx, hz, hv⟩
theorem dOK_wr {m : MdS} {v : Int32} (h : dOK m) : dOK (mWr m v) := h
theorem dOK_it {m : MdS} {v : Int32} (h : dOK m) : dOK (mIt m v) := h
theorem dOK_rp {m : MdS} {v : Int32} (h : dOK m) : dOK (mRp m v) := h
theorem dOK_rl {m : MdS} {v : Int32} (h : dOK m) : dOK (mRl m v) := h
theorem dOK_sl {m : MdS} {v : Int32} (h : dOK m) : dOK (mSl m v) := h
theorem dOK_rn {m : MdS} {v : Int32} (h : dOK m) : dOK (mRn m v) := h
theorem dOK_rd {m : MdS} {v : Nat → Int32} (h : dOK m) : dOK (mRd m v) := h
theorem dOK_up {m : MdS} {k : Int32} (h : dOK m) (hk : ¬ k = -1) (c : dHere m = k) : dOK (mPos m (m.pos + 1)) := by
  obtain ⟨Z, x, hZ, hxZ, hz, hp⟩ := h
  have hy := dHere_y hz hp hZ hxZ hk c
  exact dOK_pos hZ hy.1 hz (by rw [hp]; exact nI_1 x)
theorem dOK_end {m : MdS} (h : dOK m) : dOK (dEnd m) := by
  rw [dEnd_def, dEndD]
  split
  · split
    · rename_i c
      exact dOK_it (dOK_up (dOK_skp h) (by decide) c)
    · exact dOK_wr (dOK_skp h)
  · exact h
def dNumC (t : MdS) : Nat := dgC t.text t.len.toNatClampNeg t.pos.toNatClampNeg
def dNumV (t : MdS) : Int32 := dgV t.text t.pos.toNatClampNeg (dNumC t)
def dNumK (t : MdS) (lo hi : Int32) : Bool := (decide (nI (dNumC t) = 1) || (decide (nI (dNumC t) = 2) && !decide (t.text t.pos.toNatClampNeg = 48))) && wIn (dNumV t) lo hi
noncomputable def dNumD (m : MdS) (lo : Int32) (hi : Int32) : MdS := if m.wrong < 0 then (if dNumK (dSkp m) lo hi then mPos (dSkp m) ((dSkp m).pos + nI (dNumC (dSkp m))) else mWr (dSkp m) (dSkp m).pos) else m
theorem dNum_ex : ∃ f : MdS → Int32 → Int32 → MdS, ∀ m lo hi, f m lo hi = dNumD m lo hi := ⟨dNumD, fun _ _ _ => rfl⟩
noncomputable def dNum : MdS → Int32 → Int32 → MdS := Classical.choose dNum_ex
theorem dNum_def (m : MdS) (lo : Int32) (hi : Int32) : dNum m lo hi = dNumD m lo hi := Classical.choose_spec dNum_ex m lo hi
noncomputable def dNumR (m : MdS) (lo hi : Int32) : Int32 := if m.wrong < 0 then (if dNumK (dSkp m) lo hi then dNumV (dSkp m) else 0) else 0
theorem runD_le {B : Nat → Int32} {Z : Nat} : ∀ (f x : Nat), x ≤ runD B Z f x ∧ runD B Z f x ≤ x + f
  | 0, x => ⟨Nat.le_refl _, Nat.le_refl _⟩
  | f + 1, x => by
    have h := runD_le (B := B) (Z := Z) f (x + 1)
    rw [runD]
    split <;> omega
theorem dOK_num {m : MdS} {lo hi : Int32} (h : dOK m) : dOK (dNum m lo hi) := by
  rw [dNum_def, dNumD]
  split
  · split
    · have h2 := dOK_skp h
      generalize dSkp m = t at h2
      obtain ⟨Z, x, hZ, hxZ, hz, hp⟩ := h2
      have hr := runD_le (B := t.text) (Z := Z) (Z - x) x
      refine dOK_pos (x := x + dNumC t) hZ ?_ hz ?_
      · unfold dNumC dgC
        rw [hz, hp, nI_clamp (by omega), nI_clamp (by omega)]
        omega
      · rw [hp]
        exact nI_add x _
    · exact dOK_wr (dOK_skp h)
  · exact h
theorem i_X5_ends_X5 : ∀ w ∈ wsX50, w ∈ wsX5_ends := by decide +kernel
theorem h_X5_ends : yX5_ends.cls = RX5 ∧ yX5_ends.cls ≠ "java/lang/invoke/MethodHandle" ∧ yX5_ends.cls ≠ "java/lang/invoke/VarHandle" ∧ (parseMethodDescriptor yX5_ends.desc).map (fun d => d.parameters.length) = some 0 := by decide +kernel
set_option maxHeartbeats 4000000 in
set_option maxRecDepth 100000 in
theorem c_X5_ends (lz : Launch) (G : gG) (a : Nat → Nat) (m : MdS) (hok : dOK m) : gWr lz yX5_ends wsX5_ends 2 G [.ref (a 0)] (wMd a G.2.1 G.2.2.1 m) (wMd a G.2.1 G.2.2.1 (dEnd m)) none := by
  refine g_wr (by decide) rfl (Nat.le_of_ble_eq_true rfl) ?_
  intro pz ez sz mz bz tz cz hx hb hr hml hown hts hlocks hK A hAe hP hD hS ls hl
  have hl : lv_has ls 1 [(0, .ref (a 0))] := hl
  have f46 := hts (.fieldLink RX5 46 "WhisperRingModel" "at" "I") (by decide +kernel)
  have f53 := hts (.fieldLink RX5 53 "WhisperRingModel" "wrong" "I") (by decide +kernel)
  have f59 := hts (.fieldLink RX5 59 "WhisperRingModel" "items" "I") (by decide +kernel)
  skip
  refine lv_aload_n hx hb dX5_ends_0 rfl (lv_at hl 0 rfl) ?_
  refine va_get (D := G.1) (ci := 5) (v := .int m.wrong) (C := RX5) (T := TX5) (N := 21) hx hb hts i_X5_ends_X5 hown hK.1 hP 0 rfl rfl 14 (by decide) f53 (fun _ h9 => h9) rfl dX5_ends_1 ?_
  refine lv_if_lt (tgt := 8) hx hb dX5_ends_4 (by decide) (fun c_1 => ?_) (fun c_1 => ?_)
  · skip
    refine lv_aload_n hx hb dX5_ends_8 rfl (lv_at hl 0 rfl) ?_
    refine g_wrV (As := []) (rest := []) (nL := 1) hx hb hml hown hts (c_X5_skips lz G a m hok) gX5_ends_X5_skips rfl h_X5_skips ⟨Nat.le_of_ble_eq_true rfl, Nat.le_of_ble_eq_true rfl⟩ hK hP hD hS [0, 1, 2, 3, 4, 5, 6, 7] rfl rfl rfl (ws1 := wMd a G.2.1 G.2.2.1 (dSkp m)) rfl [a 0, a 1, a 2, a 3, a 4, a 5, a 6, a 7] rfl rfl (ci := 5) rfl rfl rfl rfl hl.1 rfl (Nat.le_of_ble_eq_true rfl) ⟨Nat.le_refl _, Nat.le_refl _⟩ dX5_ends_9 (fun H locs hP hD hS => ?_)
    generalize ht2 : dSkp m = t2 at hP hD ⊢
    have okt2 : dOK t2 := by
      rw [← ht2]
      exact dOK_skp hok
    have hP : va_P G.1 vwCl (wMd a G.2.1 G.2.2.1 t2) H := hP
    have hD : va_D A (wMd a G.2.1 G.2.2.1 t2) := hD
    refine lv_aload_n hx hb dX5_ends_12 rfl (lv_at hl 0 rfl) ?_
    refine g_rdV (As := []) (rest := []) (nL := 1) hx hb hml hown hts (c_X5_here lz G a t2 okt2) gX5_ends_X5_here rfl h_X5_here ⟨Nat.le_of_ble_eq_true rfl, Nat.le_of_ble_eq_true rfl⟩ hK hP (ci := 5) rfl rfl rfl rfl hl.1 rfl (Nat.le_of_ble_eq_true rfl) ⟨Nat.le_refl _, Nat.le_refl _⟩ dX5_ends_13 ?_
    refine lv_bipush (v := 59) hx hb dX5_ends_16 (by decide) ?_
    refine lv_icmp_ne (tgt := 44) hx hb dX5_ends_18 (by decide) (fun c_3 => ?_) (fun c_3 => ?_)
    · skip
      refine lv_aload_n hx hb dX5_ends_44 rfl (lv_at hl 0 rfl) ?_
      refine lv_aload_n hx hb dX5_ends_45 rfl (lv_at hl 0 rfl) ?_
      refine va_get (D := G.1) (ci := 5) (v := .int t2.pos) (C := RX5) (T := TX5) (N := 21) hx hb hts i_X5_ends_X5 hown hK.1 hP 0 rfl rfl 13 (by decide) f46 (fun _ h9 => h9) rfl dX5_ends_46 ?_
      obtain ⟨w4, hw4⟩ : ∃ w : Int32, w = t2.pos := ⟨_, rfl⟩
      refine g_top (y := w4) hw4.symm ?_
      refine va_put (D := G.1) (ci := 5) (v := .int w4) (ty := .int) (C := RX5) (T := TX5) (N := 21) hx hb hts i_X5_ends_X5 tyX5 tyX5_ok nmX5 hown hK.1 hP hD hS 0 rfl rfl 14 (by decide) f53 (fun _ h9 => h9) rfl (by decide +kernel) rfl rfl (Nat.le_of_ble_eq_true rfl) dX5_ends_49 (fun H locs hP hD hS => ?_)
      obtain ⟨t5, ht5⟩ : ∃ u_ : MdS, u_ = mWr t2 w4 := ⟨_, rfl⟩
      have hP : va_P G.1 vwCl (wMd a G.2.1 G.2.2.1 t5) H := by
        rw [ht5]
        exact hP
      have hD : va_D A (wMd a G.2.1 G.2.2.1 t5) := by
        rw [ht5]
        exact hD
      have okt5 : dOK t5 := by
        rw [ht5]
        exact okt2
      have hfin : dEnd m = t5 := by
        rw [dEnd_def, dEndD, if_pos c_1, show dSkp m = t2 from ht2, if_neg c_3, ht5, hw4, ← ht2]
        all_goals rfl
      have hP : va_P G.1 vwCl (wMd a G.2.1 G.2.2.1 (dEnd m)) H := by
        rw [hfin]
        exact hP
      exact g_wv hx hb hr hlocks hAe hP hS dX5_ends_52
    · skip
      refine lv_aload_n hx hb dX5_ends_21 rfl (lv_at hl 0 rfl) ?_
      refine lv_dup hx hb dX5_ends_22 rfl ?_
      refine va_get (D := G.1) (ci := 5) (v := .int t2.pos) (C := RX5) (T := TX5) (N := 21) hx hb hts i_X5_ends_X5 hown hK.1 hP 0 rfl rfl 13 (by decide) f46 (fun _ h9 => h9) rfl dX5_ends_23 ?_
      refine lv_iconst (v := 1) hx hb dX5_ends_26 (by decide) ?_
      refine lv_iadd hx hb dX5_ends_27 ?_
      obtain ⟨w6, hw6⟩ : ∃ w : Int32, w = t2.pos + 1 := ⟨_, rfl⟩
      refine g_top (y := w6) hw6.symm ?_
      refine va_put (D := G.1) (ci := 5) (v := .int w6) (ty := .int) (C := RX5) (T := TX5) (N := 21) hx hb hts i_X5_ends_X5 tyX5 tyX5_ok nmX5 hown hK.1 hP hD hS 0 rfl rfl 13 (by decide) f46 (fun _ h9 => h9) rfl (by decide +kernel) rfl rfl (Nat.le_of_ble_eq_true rfl) dX5_ends_28 (fun H locs hP hD hS => ?_)
      obtain ⟨t7, ht7⟩ : ∃ u_ : MdS, u_ = mPos t2 w6 := ⟨_, rfl⟩
      have hP : va_P G.1 vwCl (wMd a G.2.1 G.2.2.1 t7) H := by
        rw [ht7]
        exact hP
      have hD : va_D A (wMd a G.2.1 G.2.2.1 t7) := by
        rw [ht7]
        exact hD
      refine lv_aload_n hx hb dX5_ends_31 rfl (lv_at hl 0 rfl) ?_
      refine lv_dup hx hb dX5_ends_32 rfl ?_
      refine va_get (D := G.1) (ci := 5) (v := .int t7.items) (C := RX5) (T := TX5) (N := 21) hx hb hts i_X5_ends_X5 hown hK.1 hP 0 rfl rfl 15 (by decide) f59 (fun _ h9 => h9) rfl dX5_ends_33 ?_
      refine lv_iconst (v := 1) hx hb dX5_ends_36 (by decide) ?_
      refine lv_iadd hx hb dX5_ends_37 ?_
      obtain ⟨w8, hw8⟩ : ∃ w : Int32, w = t7.items + 1 := ⟨_, rfl⟩
      refine g_top (y := w8) hw8.symm ?_
      refine va_put (D := G.1) (ci := 5) (v := .int w8) (ty := .int) (C := RX5) (T := TX5) (N := 21) hx hb hts i_X5_ends_X5 tyX5 tyX5_ok nmX5 hown hK.1 hP hD hS 0 rfl rfl 15 (by decide) f59 (fun _ h9 => h9) rfl (by decide +kernel) rfl rfl (Nat.le_of_ble_eq_true rfl) dX5_ends_38 (fun H locs hP hD hS => ?_)
      obtain ⟨t9, ht9⟩ : ∃ u_ : MdS, u_ = mIt t7 w8 := ⟨_, rfl⟩
      have hP : va_P G.1 vwCl (wMd a G.2.1 G.2.2.1 t9) H := by
        rw [ht9]
        exact hP
      have hD : va_D A (wMd a G.2.1 G.2.2.1 t9) := by
        rw [ht9]
        exact hD
      refine lv_goto (tgt := 52) hx hb dX5_ends_41 (by decide) ?_
      have hfin : dEnd m = t9 := by
        rw [dEnd_def, dEndD, if_pos c_1, show dSkp m = t2 from ht2, if_pos c_3, ht9, hw8, ht7, hw6, ← ht2]
        all_goals rfl
      have hP : va_P G.1 vwCl (wMd a G.2.1 G.2.2.1 (dEnd m)) H := by
        rw [hfin]
        exact hP
      exact g_wv hx hb hr hlocks hAe hP hS dX5_ends_52
  · skip
    have hP : va_P G.1 vwCl (wMd a G.2.1 G.2.2.1 (dEnd m)) sz.heap := by
      rw [dEnd_def, dEndD, if_neg c_1]
      exact hP
    exact g_wv hx hb hr hlocks hAe hP hS dX5_ends_7

