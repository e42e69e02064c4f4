def yTyT (m : MdS) (Z : Nat) (x : Int32) : Nat → Int32 := if wIn x 0 255 then (if m.len = 120 then m.text else upd m.text Z x) else m.text
def yTyL (m : MdS) (Z : Nat) (x : Int32) : Int32 := if wIn x 0 255 then (if m.len = 120 then m.len else nI (Z + 1)) else m.len
def yTyR (m : MdS) (Z : Nat) (x : Int32) : Int32 := if wIn x 0 255 then (if m.len = 120 then -3 else nI (Z + 1)) else -1
def dOK (m : MdS) : Prop := ∃ Z x : Nat, Z ≤ 120 ∧ x ≤ Z ∧ m.len = nI Z ∧ m.pos = nI x
def dHere (m : MdS) : Int32 := if m.pos < m.len then m.text m.pos.toNatClampNeg else -1
theorem dHere_y {m : MdS} {Z y : Nat} {k : Int32} (hz : m.len = nI Z) (hp : m.pos = nI y) (hZ : Z ≤ 120) (hyZ : y ≤ Z) (hk : ¬ k = -1) (c : dHere m = k) : y < Z ∧ m.text y = k := by
  unfold dHere at c
  by_cases h : m.pos < m.len
  · rw [if_pos h, hp, nI_clamp (by omega)] at c
    rw [hp, hz] at h
    exact ⟨(nI_ltI (by omega) (by omega)).mp h, c⟩
  · rw [if_neg h] at c
    exact absurd c.symm hk
theorem dHere_n {m : MdS} {Z y : Nat} (hz : m.len = nI Z) (hp : m.pos = nI y) (hZ : Z ≤ 120) (hyZ : y ≤ Z) (c : ¬ dHere m = 32) : skp m.text Z (Z - y) y = y := by
  rcases Nat.lt_or_ge y Z with q | q
  · refine skp_n q (fun h => c ?_)
    unfold dHere
    rw [if_pos (by rw [hp, hz]; exact (nI_ltI (by omega) (by omega)).mpr q), hp, nI_clamp (by omega)]
    exact h
  · exact skp_e q
def mPos (m : MdS) (v : Int32) : MdS := (m.text, m.len, m.pl, m.loss, m.nich, m.st, m.book, m.undos, m.imgs, m.kept, m.heard, m.hm, m.trail, v, m.wrong, m.items, m.rp, m.rl, m.sl, m.rn, m.read)
def mWr (m : MdS) (v : Int32) : MdS := (m.text, m.len, m.pl, m.loss, m.nich, m.st, m.book, m.undos, m.imgs, m.kept, m.heard, m.hm, m.trail, m.pos, v, m.items, m.rp, m.rl, m.sl, m.rn, m.read)
def mIt (m : MdS) (v : Int32) : MdS := (m.text, m.len, m.pl, m.loss, m.nich, m.st, m.book, m.undos, m.imgs, m.kept, m.heard, m.hm, m.trail, m.pos, m.wrong, v, m.rp, m.rl, m.sl, m.rn, m.read)
def mRp (m : MdS) (v : Int32) : MdS := (m.text, m.len, m.pl, m.loss, m.nich, m.st, m.book, m.undos, m.imgs, m.kept, m.heard, m.hm, m.trail, m.pos, m.wrong, m.items, v, m.rl, m.sl, m.rn, m.read)
def mRl (m : MdS) (v : Int32) : MdS := (m.text, m.len, m.pl, m.loss, m.nich, m.st, m.book, m.undos, m.imgs, m.kept, m.heard, m.hm, m.trail, m.pos, m.wrong, m.items, m.rp, v, m.sl, m.rn, m.read)
def mSl (m : MdS) (v : Int32) : MdS := (m.text, m.len, m.pl, m.loss, m.nich, m.st, m.book, m.undos, m.imgs, m.kept, m.heard, m.hm, m.trail, m.pos, m.wrong, m.items, m.rp, m.rl, v, m.rn, m.read)
def mRn (m : MdS) (v : Int32) : MdS := (m.text, m.len, m.pl, m.loss, m.nich, m.st, m.book, m.undos, m.imgs, m.kept, m.heard, m.hm, m.trail, m.pos, m.wrong, m.items, m.rp, m.rl, m.sl, v, m.read)
def mRd (m : MdS) (v : Nat → Int32) : MdS := (m.text, m.len, m.pl, m.loss, m.nich, m.st, m.book, m.undos, m.imgs, m.kept, m.heard, m.hm, m.trail, m.pos, m.wrong, m.items, m.rp, m.rl, m.sl, m.rn, v)
def dSkpD (m : MdS) : MdS := (m.text, m.len, m.pl, m.loss, m.nich, m.st, m.book, m.undos, m.imgs, m.kept, m.heard, m.hm, m.trail, nI (stQ m.text m.len.toNatClampNeg m.pos.toNatClampNeg), m.wrong, m.items, m.rp, m.rl, m.sl, m.rn, m.read)
theorem dSkp_ex : ∃ f : MdS → MdS, ∀ m, f m = dSkpD m := ⟨dSkpD, fun _ => rfl⟩
noncomputable def dSkp : MdS → MdS := Classical.choose dSkp_ex
theorem dSkp_def (m : MdS) : dSkp m = dSkpD m := Classical.choose_spec dSkp_ex m

theorem dSkp_eq {m : MdS} {Z x : Nat} (hZ : Z ≤ 120) (hxZ : x ≤ Z) (hz : m.len = nI Z) (hp : m.pos = nI x) : dSkp m = mPos m (nI (stQ m.text Z x)) := by
  rw [dSkp_def, dSkpD, hz, hp, nI_clamp (by omega), nI_clamp (by omega), ← hz]
  rfl
theorem dOK_skp {m : MdS} (h : dOK m) : dOK (dSkp m) := by
  obtain ⟨Z, x, hZ, hxZ, hz, hp⟩ := h
  rw [dSkp_eq hZ hxZ hz hp]
  exact ⟨Z, _, hZ, (stQ_le hxZ).2, hz, rfl⟩
def runD (B : Nat → Int32) (Z : Nat) : Nat → Nat → Nat
  | 0, x => x
  | f + 1, x => if wIn (B x) 48 57 then runD B Z f (x + 1) else x
theorem runD_y {B : Nat → Int32} {Z x : Nat} (h : x < Z) (c : wIn (B x) 48 57 = true) : runD B Z (Z - x) x = runD B Z (Z - (x + 1)) (x + 1) := by rw [show Z - x = (Z - (x + 1)) + 1 by omega, runD, if_pos c]
theorem runD_n {B : Nat → Int32} {Z x : Nat} (h : x < Z) (c : wIn (B x) 48 57 = false) : runD B Z (Z - x) x = x := by rw [show Z - x = (Z - (x + 1)) + 1 by omega, runD, if_neg (by rw [c]; decide)]
theorem runD_e {B : Nat → Int32} {Z x : Nat} (h : Z ≤ x) : runD B Z (Z - x) x = x := by rw [show Z - x = 0 by omega, runD]
def dgV (B : Nat → Int32) (q : Nat) : Nat → Int32
  | 0 => 0
  | c + 1 => if nI c < 3 then 10 * dgV B q c + B (q + c) - 48 else dgV B q c
def dgC (B : Nat → Int32) (Z q : Nat) : Nat := runD B Z (Z - q) q - q
theorem i_X5_type_X5 : ∀ w ∈ wsX50, w ∈ wsX5_type := by decide +kernel
theorem h_X5_type : yX5_type.cls = RX5 ∧ yX5_type.cls ≠ "java/lang/invoke/MethodHandle" ∧ yX5_type.cls ≠ "java/lang/invoke/VarHandle" ∧ (parseMethodDescriptor yX5_type.desc).map (fun d => d.parameters.length) = some 1 := by decide +kernel
set_option maxHeartbeats 4000000 in
set_option maxRecDepth 100000 in
theorem c_X5_type (lz : Launch) (G : gG) (a : Nat → Nat) (m : MdS) (Z : Nat) (x : Int32) (hz : m.len = nI Z) (hZ : Z ≤ 120) : gWr lz yX5_type wsX5_type 1 G [.ref (a 0), .int x] (wMd a G.2.1 G.2.2.1 m) (wMd a G.2.1 G.2.2.1 (yTyT m Z x, yTyL m Z x, m.pl, m.loss, m.nich, m.st, m.book, m.undos, m.imgs, m.kept, m.heard, m.hm, m.trail, m.pos, m.wrong, m.items, m.rp, m.rl, m.sl, m.rn, m.read)) (some (.int (yTyR m Z x))) := by
  refine g_wr (by decide) rfl (Nat.le_of_ble_eq_true rfl) ?_
  intro pz ez sz mz bz tz cz hx hb hr hml hown hts hlocks hK A hAe hP hD hS ls hl
  have hl : lv_has ls 2 [(0, .ref (a 0)), (1, .int x)] := hl
  have f43 := hts (.fieldLink RX5 43 "WhisperRingModel" "length" "I") (by decide +kernel)
  have f7 := hts (.fieldLink RX5 7 "WhisperRingModel" "text" "[I") (by decide +kernel)
  refine lv_iload_n hx hb dX5_type_0 rfl (lv_at hl 1 rfl) ?_
  refine lv_iconst (v := 0) hx hb dX5_type_1 (by decide) ?_
  refine lv_sipush (v := 255) hx hb dX5_type_2 (by decide) ?_
  refine g_rdS (As := [.int x, .int 0, .int 255]) (rest := []) (nL := 2) hx hb hml hown hts (c_X5_in lz G x 0 255) gX5_type_X5_in rfl h_X5_in ⟨Nat.le_of_ble_eq_true rfl, Nat.le_of_ble_eq_true rfl⟩ hK gP_nil rfl hl.1 rfl (Nat.le_of_ble_eq_true rfl) ⟨Nat.le_refl _, Nat.le_refl _⟩ dX5_type_5 ?_
  refine lv_if_ne (tgt := 13) hx hb dX5_type_8 (by decide) (fun c_1 => ?_) (fun c_1 => ?_)
  · skip
    have c_1 := bI_1 c_1
    refine lv_aload_n hx hb dX5_type_13 rfl (lv_at hl 0 rfl) ?_
    refine va_get (D := G.1) (ci := 5) (v := .int m.len) (C := RX5) (T := TX5) (N := 21) hx hb hts i_X5_type_X5 hown hK.1 hP 0 rfl rfl 1 (by decide) f43 (fun _ h9 => h9) rfl dX5_type_14 ?_
    refine lv_bipush (v := 120) hx hb dX5_type_17 (by decide) ?_
    refine lv_icmp_ne (tgt := 25) hx hb dX5_type_19 (by decide) (fun c_2 => ?_) (fun c_2 => ?_)
    · skip
      have hZ1 : Z < 120 := by
        rcases Nat.lt_or_ge Z 120 with q | q
        · exact q
        · exact absurd (by rw [hz, show Z = 120 by omega]; rfl) c_2
      refine lv_aload_n hx hb dX5_type_25 rfl (lv_at hl 0 rfl) ?_
      refine va_get (D := G.1) (ci := 5) (v := .ref (a 1)) (C := RX5) (T := TX5) (N := 21) hx hb hts i_X5_type_X5 hown hK.1 hP 0 rfl rfl 0 (by decide) f7 (fun _ h9 => h9) rfl dX5_type_26 ?_
      refine lv_aload_n hx hb dX5_type_29 rfl (lv_at hl 0 rfl) ?_
      refine va_get (D := G.1) (ci := 5) (v := .int m.len) (C := RX5) (T := TX5) (N := 21) hx hb hts i_X5_type_X5 hown hK.1 hP 0 rfl rfl 1 (by decide) f43 (fun _ h9 => h9) rfl dX5_type_30 ?_
      refine g_top (y := nI Z) (hz) ?_
      refine lv_iload_n hx hb dX5_type_33 rfl (lv_at hl 1 rfl) ?_
      refine g_iast hx hb hK.1 hP hD hS 1 0 rfl rfl (i := Z) (by omega) (by decide) dX5_type_34 (fun H locs hP hD hS => ?_)
      have hP : va_P G.1 vwCl (wMd a G.2.1 G.2.2.1 (upd m.text Z x, m.len, m.pl, m.loss, m.nich, m.st, m.book, m.undos, m.imgs, m.kept, m.heard, m.hm, m.trail, m.pos, m.wrong, m.items, m.rp, m.rl, m.sl, m.rn, m.read)) H := hP
      have hD : va_D A (wMd a G.2.1 G.2.2.1 (upd m.text Z x, m.len, m.pl, m.loss, m.nich, m.st, m.book, m.undos, m.imgs, m.kept, m.heard, m.hm, m.trail, m.pos, m.wrong, m.items, m.rp, m.rl, m.sl, m.rn, m.read)) := hD
      refine lv_aload_n hx hb dX5_type_35 rfl (lv_at hl 0 rfl) ?_
      refine lv_dup hx hb dX5_type_36 rfl ?_
      refine va_get (D := G.1) (ci := 5) (v := .int m.len) (C := RX5) (T := TX5) (N := 21) hx hb hts i_X5_type_X5 hown hK.1 hP 0 rfl rfl 1 (by decide) f43 (fun _ h9 => h9) rfl dX5_type_37 ?_
      refine g_top (y := nI Z) (hz) ?_
      refine lv_iconst (v := 1) hx hb dX5_type_40 (by decide) ?_
      refine lv_iadd hx hb dX5_type_41 ?_
      refine g_top (y := nI (Z + 1)) (nI_add Z 1) ?_
      refine va_put (D := G.1) (ci := 5) (v := .int (nI (Z + 1))) (ty := .int) (C := RX5) (T := TX5) (N := 21) hx hb hts i_X5_type_X5 tyX5 tyX5_ok nmX5 hown hK.1 hP hD hS 0 rfl rfl 1 (by decide) f43 (fun _ h9 => h9) rfl (by decide +kernel) rfl rfl (Nat.le_of_ble_eq_true rfl) dX5_type_42 (fun H locs hP hD hS => ?_)
      have hP : va_P G.1 vwCl (wMd a G.2.1 G.2.2.1 (upd m.text Z x, nI (Z + 1), m.pl, m.loss, m.nich, m.st, m.book, m.undos, m.imgs, m.kept, m.heard, m.hm, m.trail, m.pos, m.wrong, m.items, m.rp, m.rl, m.sl, m.rn, m.read)) H := hP
      have hD : va_D A (wMd a G.2.1 G.2.2.1 (upd m.text Z x, nI (Z + 1), m.pl, m.loss, m.nich, m.st, m.book, m.undos, m.imgs, m.kept, m.heard, m.hm, m.trail, m.pos, m.wrong, m.items, m.rp, m.rl, m.sl, m.rn, m.read)) := hD
      refine lv_aload_n hx hb dX5_type_45 rfl (lv_at hl 0 rfl) ?_
      refine va_get (D := G.1) (ci := 5) (v := .int (nI (Z + 1))) (C := RX5) (T := TX5) (N := 21) hx hb hts i_X5_type_X5 hown hK.1 hP 0 rfl rfl 1 (by decide) f43 (fun _ h9 => h9) rfl dX5_type_46 ?_
      have hP : va_P G.1 vwCl (wMd a G.2.1 G.2.2.1 (yTyT m Z x, yTyL m Z x, m.pl, m.loss, m.nich, m.st, m.book, m.undos, m.imgs, m.kept, m.heard, m.hm, m.trail, m.pos, m.wrong, m.items, m.rp, m.rl, m.sl, m.rn, m.read)) H := by
        rw [yTyT, yTyL] <;> (first | rw [if_pos c_1, if_pos c_1] | rw [if_neg c_1, if_neg c_1] | rw [if_neg (by rw [c_1]; decide), if_neg (by rw [c_1]; decide)] | skip) <;> (first | rw [if_pos c_2, if_pos c_2] | rw [if_neg c_2, if_neg c_2] | rw [if_neg (by rw [c_2]; decide), if_neg (by rw [c_2]; decide)] | skip)
        exact hP
      exact g_wi hx hb hr hlocks hAe hP hS dX5_type_49 (by rw [yTyR] <;> (first | done | rw [if_pos c_1] | rw [if_neg c_1] | rw [if_neg (by rw [c_1]; decide)] | skip) <;> (first | done | rw [if_pos c_2] | rw [if_neg c_2] | rw [if_neg (by rw [c_2]; decide)] | skip) <;> (first | done | rfl | (simp only [c_1, c_2]; rfl) | (simp [c_1, c_2, bI]; done)))
    · skip
      refine lv_bipush (v := (-3)) hx hb dX5_type_22 (by decide) ?_
      have hP : va_P G.1 vwCl (wMd a G.2.1 G.2.2.1 (yTyT m Z x, yTyL m Z x, m.pl, m.loss, m.nich, m.st, m.book, m.undos, m.imgs, m.kept, m.heard, m.hm, m.trail, m.pos, m.wrong, m.items, m.rp, m.rl, m.sl, m.rn, m.read)) sz.heap := by
        rw [yTyT, yTyL] <;> (first | rw [if_pos c_1, if_pos c_1] | rw [if_neg c_1, if_neg c_1] | rw [if_neg (by rw [c_1]; decide), if_neg (by rw [c_1]; decide)] | skip) <;> (first | rw [if_pos c_2, if_pos c_2] | rw [if_neg c_2, if_neg c_2] | rw [if_neg (by rw [c_2]; decide), if_neg (by rw [c_2]; decide)] | skip)
        exact hP
      exact g_wi hx hb hr hlocks hAe hP hS dX5_type_24 (by rw [yTyR] <;> (first | done | rw [if_pos c_1] | rw [if_neg c_1] | rw [if_neg (by rw [c_1]; decide)] | skip) <;> (first | done | rw [if_pos c_2] | rw [if_neg c_2] | rw [if_neg (by rw [c_2]; decide)] | skip) <;> (first | done | rfl | (simp only [c_1, c_2]; rfl) | (simp [c_1, c_2, bI]; done)))
  · skip
    have c_1 := bI_0 c_1
    refine lv_iconst (v := (-1)) hx hb dX5_type_11 (by decide) ?_
    have hP : va_P G.1 vwCl (wMd a G.2.1 G.2.2.1 (yTyT m Z x, yTyL m Z x, m.pl, m.loss, m.nich, m.st, m.book, m.undos, m.imgs, m.kept, m.heard, m.hm, m.trail, m.pos, m.wrong, m.items, m.rp, m.rl, m.sl, m.rn, m.read)) sz.heap := by
      rw [yTyT, yTyL] <;> (first | rw [if_pos c_1, if_pos c_1] | rw [if_neg c_1, if_neg c_1] | rw [if_neg (by rw [c_1]; decide), if_neg (by rw [c_1]; decide)] | skip)
      exact hP
    exact g_wi hx hb hr hlocks hAe hP hS dX5_type_12 (by rw [yTyR] <;> (first | done | rw [if_pos c_1] | rw [if_neg c_1] | rw [if_neg (by rw [c_1]; decide)] | skip) <;> (first | done | rfl | (simp only [c_1]; rfl) | (simp [c_1, bI]; done)))

theorem i_X5_clear_X5 : ∀ w ∈ wsX50, w ∈ wsX5_clear := by decide +kernel
theorem h_X5_clear : yX5_clear.cls = RX5 ∧ yX5_clear.cls ≠ "java/lang/invoke/MethodHandle" ∧ yX5_clear.cls ≠ "java/lang/invoke/VarHandle" ∧ (parseMethodDescriptor yX5_clear.desc).map (fun d => d.parameters.length) = some 0 := by decide +kernel
set_option maxHeartbeats 4000000 in
set_option maxRecDepth 100000 in
theorem c_X5_clear (lz : Launch) (G : gG) (a : Nat → Nat) (m : MdS)  : gWr lz yX5_clear wsX5_clear 0 G [.ref (a 0)] (wMd a G.2.1 G.2.2.1 m) (wMd a G.2.1 G.2.2.1 (m.text, 0, m.pl, m.loss, m.nich, m.st, m.book, m.undos, m.imgs, m.kept, m.heard, m.hm, m.trail, m.pos, m.wrong, m.items, m.rp, m.rl, m.sl, m.rn, m.read)) (some (.int m.len)) := by
  refine g_wr (by decide) rfl (Nat.le_of_ble_eq_true rfl) ?_
  intro pz ez sz mz bz tz cz hx hb hr hml hown hts hlocks hK A hAe hP hD hS ls hl
  have hl : lv_has ls 2 [(0, .ref (a 0))] := hl
  have f43 := hts (.fieldLink RX5 43 "WhisperRingModel" "length" "I") (by decide +kernel)
  refine lv_aload_n hx hb dX5_clear_0 rfl (lv_at hl 0 rfl) ?_
  refine va_get (D := G.1) (ci := 5) (v := .int m.len) (C := RX5) (T := TX5) (N := 21) hx hb hts i_X5_clear_X5 hown hK.1 hP 0 rfl rfl 1 (by decide) f43 (fun _ h9 => h9) rfl dX5_clear_1 ?_
  refine lv_istore_n (lv' := [(1, .int m.len), (0, .ref (a 0))]) hx hb dX5_clear_4 rfl hl (by decide) rfl (fun ls hl => ?_)
  refine lv_aload_n hx hb dX5_clear_5 rfl (lv_at hl 1 rfl) ?_
  refine lv_iconst (v := 0) hx hb dX5_clear_6 (by decide) ?_
  refine va_put (D := G.1) (ci := 5) (v := .int 0) (ty := .int) (C := RX5) (T := TX5) (N := 21) hx hb hts i_X5_clear_X5 tyX5 tyX5_ok nmX5 hown hK.1 hP hD hS 0 rfl rfl 1 (by decide) f43 (fun _ h9 => h9) rfl (by decide +kernel) rfl rfl (Nat.le_of_ble_eq_true rfl) dX5_clear_7 (fun H locs hP hD hS => ?_)
  have hP : va_P G.1 vwCl (wMd a G.2.1 G.2.2.1 (m.text, 0, m.pl, m.loss, m.nich, m.st, m.book, m.undos, m.imgs, m.kept, m.heard, m.hm, m.trail, m.pos, m.wrong, m.items, m.rp, m.rl, m.sl, m.rn, m.read)) H := hP
  have hD : va_D A (wMd a G.2.1 G.2.2.1 (m.text, 0, m.pl, m.loss, m.nich, m.st, m.book, m.undos, m.imgs, m.kept, m.heard, m.hm, m.trail, m.pos, m.wrong, m.items, m.rp, m.rl, m.sl, m.rn, m.read)) := hD
  refine lv_iload_n hx hb dX5_clear_10 rfl (lv_at hl 0 rfl) ?_
  exact g_wi hx hb hr hlocks hAe hP hS dX5_clear_11 rfl

theorem i_X5_here_X5 : ∀ w ∈ wsX50, w ∈ wsX5_here := by decide +kernel
theorem h_X5_here : yX5_here.cls = RX5 ∧ yX5_here.cls ≠ "java/lang/invoke/MethodHandle" ∧ yX5_here.cls ≠ "java/lang/invoke/VarHandle" ∧ (parseMethodDescriptor yX5_here.desc).map (fun d => d.parameters.length) = some 0 := by decide +kernel
set_option maxHeartbeats 4000000 in
set_option maxRecDepth 100000 in
theorem c_X5_here (lz : Launch) (G : gG) (a : Nat → Nat) (m : MdS) (hok : dOK m) : gRd lz yX5_here wsX5_here 0 G [.ref (a 0)] (wMd a G.2.1 G.2.2.1 m) (dHere m) := by
  refine g_rd (by decide) rfl (Nat.le_of_ble_eq_true rfl) ?_
  intro pz ez sz mz bz tz cz hx hb hr hml hown hts hlocks hP hK ls hl
  have hl : lv_has ls 1 [(0, .ref (a 0))] := hl
  have f43 := hts (.fieldLink RX5 43 "WhisperRingModel" "length" "I") (by decide +kernel)
  have f46 := hts (.fieldLink RX5 46 "WhisperRingModel" "at" "I") (by decide +kernel)
  have f7 := hts (.fieldLink RX5 7 "WhisperRingModel" "text" "[I") (by decide +kernel)
  obtain ⟨Z, x, hZ, hxZ, hz, hp⟩ := hok
  refine lv_aload_n hx hb dX5_here_0 rfl (lv_at hl 0 rfl) ?_
  refine va_get (D := G.1) (ci := 5) (v := .int m.pos) (C := RX5) (T := TX5) (N := 21) hx hb hts i_X5_here_X5 hown hK.1 hP 0 rfl rfl 13 (by decide) f46 (fun _ h9 => h9) rfl dX5_here_1 ?_
  refine lv_aload_n hx hb dX5_here_4 rfl (lv_at hl 0 rfl) ?_
  refine va_get (D := G.1) (ci := 5) (v := .int m.len) (C := RX5) (T := TX5) (N := 21) hx hb hts i_X5_here_X5 hown hK.1 hP 0 rfl rfl 1 (by decide) f43 (fun _ h9 => h9) rfl dX5_here_5 ?_
  refine lv_icmp_ge (tgt := 23) hx hb dX5_here_8 (by decide) (fun c_1 => ?_) (fun c_1 => ?_)
  · skip
    have c_1 := gl_le c_1
    refine lv_iconst (v := (-1)) hx hb dX5_here_23 (by decide) ?_
    exact g_ri hx hb hr hlocks dX5_here_24 (by rw [dHere, if_neg c_1])
  · skip
    have c_1 := gl_nle c_1
    have hlt : x < Z := gl_ll hp hz (by omega) (by omega) c_1
    refine lv_aload_n hx hb dX5_here_11 rfl (lv_at hl 0 rfl) ?_
    refine va_get (D := G.1) (ci := 5) (v := .ref (a 1)) (C := RX5) (T := TX5) (N := 21) hx hb hts i_X5_here_X5 hown hK.1 hP 0 rfl rfl 0 (by decide) f7 (fun _ h9 => h9) rfl dX5_here_12 ?_
    refine lv_aload_n hx hb dX5_here_15 rfl (lv_at hl 0 rfl) ?_
    refine va_get (D := G.1) (ci := 5) (v := .int m.pos) (C := RX5) (T := TX5) (N := 21) hx hb hts i_X5_here_X5 hown hK.1 hP 0 rfl rfl 13 (by decide) f46 (fun _ h9 => h9) rfl dX5_here_16 ?_
    refine g_top (y := nI x) (hp) ?_
    refine g_iald hx hb hK.1 hP 1 0 rfl rfl (i := x) (by omega) (by decide) dX5_here_19 ?_
    refine lv_goto (tgt := 24) hx hb dX5_here_20 (by decide) ?_
    exact g_ri hx hb hr hlocks dX5_here_24 (by rw [dHere, if_pos c_1, hp, nI_clamp (by omega)])

theorem i_X5_skips_X5 : ∀ w ∈ wsX50, w ∈ wsX5_skips := by decide +kernel
theorem h_X5_skips : yX5_skips.cls = RX5 ∧ yX5_skips.cls ≠ "java/lang/invoke/MethodHandle" ∧ yX5_skips.cls ≠ "java/lang/invoke/VarHandle" ∧ (parseMethodDescriptor yX5_skips.desc).map (fun d => d.parameters.length) = some 0 := by decide +kernel
set_option maxHeartbeats 4000000 in
set_option maxRecDepth 100000 in
theorem c_X5_skips (lz : Launch) (G : gG) (a : Nat → Nat) (m : MdS) (hok : dOK m) : gWr lz yX5_skips wsX5_skips 1 G [.ref (a 0)] (wMd a G.2.1 G.2.2.1 m) (wMd a G.2.1 G.2.2.1 (dSkp m)) none := by
  refine g_wr (by decide) rfl (Nat.le_of_ble_eq_true rfl) ?_
  intro pz ez sz mz bz tz cz hx hb hr hml hown hts hlocks hK A hAe hP hD hS ls hl
  have hl : lv_has ls 1 [(0, .ref (a 0))] := hl
  have f46 := hts (.fieldLink RX5 46 "WhisperRingModel" "at" "I") (by decide +kernel)
  obtain ⟨Z, x, hZ, hxZ, hz, hp⟩ := hok
  have hm0 : m = mPos m (nI x) := by rw [← hp]; rfl
  have lp_0 : ∀ (fu_0 : Nat) (y : Nat) (t : MdS), (y ≤ Z) → (t = mPos m (nI y)) → (stQ m.text Z x = skp m.text Z (Z - y) y) → Z - y < fu_0 → ∀ (H : Heap) (locs : List Loc), va_P G.1 vwCl (wMd a G.2.1 G.2.2.1 t) H → va_D A (wMd a G.2.1 G.2.2.1 t) → va_S A sz.heap H locs → ∀ ls : Array Slot, lv_has ls 1 [(0, .ref (a 0))] → W pz lz ez (gRm 1) sz mz ([.ref (a 0)] : List Value).toArray bz tz cz H locs 0 0 (MQ bz (gQ G (wMd a G.2.1 G.2.2.1 m) (wMd a G.2.1 G.2.2.1 (dSkp m)) none) ([.ref (a 0)] : List Value).toArray sz 0 0 (gAd (wMd a G.2.1 G.2.2.1 m))) (F0 mz 0 ls []) := by
    intro fu_0
    induction fu_0 with
    | zero =>
      intro y t hyZ ht hsk hf_0
      exact absurd hf_0 (Nat.not_lt_zero _)
    | succ fu_0 ih_0 =>
      intro y t hyZ ht hsk hf_0 H locs hP hD hS ls hl
      refine lv_aload_n hx hb dX5_skips_0 rfl (lv_at hl 0 rfl) ?_
      refine g_rdV (As := []) (rest := []) (nL := 1) hx hb hml hown hts (c_X5_here lz G a t (⟨Z, y, hZ, hyZ, (by rw [ht]; exact hz), (by rw [ht]; rfl)⟩)) gX5_skips_X5_here rfl h_X5_here ⟨Nat.le_of_ble_eq_true rfl, Nat.le_of_ble_eq_true rfl⟩ hK hP (ci := 5) rfl rfl rfl rfl hl.1 rfl (Nat.le_of_ble_eq_true rfl) ⟨Nat.le_refl _, Nat.le_refl _⟩ dX5_skips_1 ?_
      refine lv_bipush (v := 32) hx hb dX5_skips_4 (by decide) ?_
      refine lv_icmp_ne (tgt := 22) hx hb dX5_skips_6 (by decide) (fun c_1 => ?_) (fun c_1 => ?_)
      · skip
        have hskn := dHere_n (m := t) (Z := Z) (y := y) (by rw [ht]; exact hz) (by rw [ht]; rfl) hZ hyZ c_1
        rw [ht] at hskn
        have hskn := hsk.trans hskn
        have hP : va_P G.1 vwCl (wMd a G.2.1 G.2.2.1 (dSkp m)) H := by
          rw [dSkp_eq hZ hxZ hz hp, hskn, ← ht]
          exact hP
        exact g_wv hx hb hr hlocks hAe hP hS dX5_skips_22
      · skip
        obtain ⟨hlt, hy32⟩ := dHere_y (m := t) (Z := Z) (y := y) (k := 32) (by rw [ht]; exact hz) (by rw [ht]; rfl) hZ hyZ (by decide) c_1
        rw [ht] at hy32
        refine lv_aload_n hx hb dX5_skips_9 rfl (lv_at hl 0 rfl) ?_
        refine lv_dup hx hb dX5_skips_10 rfl ?_
        refine va_get (D := G.1) (ci := 5) (v := .int t.pos) (C := RX5) (T := TX5) (N := 21) hx hb hts i_X5_skips_X5 hown hK.1 hP 0 rfl rfl 13 (by decide) f46 (fun _ h9 => h9) rfl dX5_skips_11 ?_
        refine lv_iconst (v := 1) hx hb dX5_skips_14 (by decide) ?_
        refine lv_iadd hx hb dX5_skips_15 ?_
        refine va_put (D := G.1) (ci := 5) (v := .int (t.pos + 1)) (ty := .int) (C := RX5) (T := TX5) (N := 21) hx hb hts i_X5_skips_X5 tyX5 tyX5_ok nmX5 hown hK.1 hP hD hS 0 rfl rfl 13 (by decide) f46 (fun _ h9 => h9) rfl (by decide +kernel) rfl rfl (Nat.le_of_ble_eq_true rfl) dX5_skips_16 (fun H locs hP hD hS => ?_)
        have hP : va_P G.1 vwCl (wMd a G.2.1 G.2.2.1 (t.text, t.len, t.pl, t.loss, t.nich, t.st, t.book, t.undos, t.imgs, t.kept, t.heard, t.hm, t.trail, t.pos + 1, t.wrong, t.items, t.rp, t.rl, t.sl, t.rn, t.read)) H := hP
        have hD : va_D A (wMd a G.2.1 G.2.2.1 (t.text, t.len, t.pl, t.loss, t.nich, t.st, t.book, t.undos, t.imgs, t.kept, t.heard, t.hm, t.trail, t.pos + 1, t.wrong, t.items, t.rp, t.rl, t.sl, t.rn, t.read)) := hD
        refine lv_goto (tgt := 0) hx hb dX5_skips_19 (by decide) ?_
        exact ih_0 (y + 1) (t.text, t.len, t.pl, t.loss, t.nich, t.st, t.book, t.undos, t.imgs, t.kept, t.heard, t.hm, t.trail, t.pos + 1, t.wrong, t.items, t.rp, t.rl, t.sl, t.rn, t.read) hlt (by rw [ht]; exact congrArg (mPos m) (nI_1 y)) (hsk.trans (skp_y hlt hy32)) (by omega) _ _ hP hD hS ls (lv_sub hl [0] rfl)
  exact lp_0 ((Z - x) + 1) x m hxZ hm0 rfl (Nat.lt_succ_self _) _ _ hP hD hS ls (lv_sub hl [0] rfl)
