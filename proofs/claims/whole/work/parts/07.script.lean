abbrev ScS : Type := Int32 × (Nat → Int32) × Int32 × Int32 × Int32 × Int32 × Int32
abbrev ScS.size (s : ScS) : Int32 := s.1
abbrev ScS.bytes (s : ScS) : Nat → Int32 := s.2.1
abbrev ScS.next (s : ScS) : Int32 := s.2.2.1
abbrev ScS.tokAt (s : ScS) : Int32 := s.2.2.2.1
abbrev ScS.tok (s : ScS) : Int32 := s.2.2.2.2.1
abbrev ScS.val (s : ScS) : Int32 := s.2.2.2.2.2.1
abbrev ScS.told (s : ScS) : Int32 := s.2.2.2.2.2.2
def wSc (b : Nat → Nat) (cI : ClassId) (s : ScS) : va_W := [(b 0, .inr (3, [.int s.size, .ref (b 1), .int s.next, .int s.tokAt, .int s.tok, .int s.val, .int s.told])), (b 1, .inl (cI, 120, .inl s.bytes))]
def scApp (s : ScS) (Z : Nat) (c : Int32) : ScS := if s.size < 120 then (nI (Z + 1), upd s.bytes Z c, s.next, s.tokAt, s.tok, s.val, s.told) else s
def tkOf (c : Int32) : Int32 := if wIn c 97 122 then 1 else if wIn c 48 57 then 2 else if c = 59 then 3 else 4
theorem tkOf_0 (c : Int32) : ¬ tkOf c = 0 := by
  unfold tkOf
  split
  · decide
  · split
    · decide
    · split <;> decide
def skp (B : Nat → Int32) (Z : Nat) : Nat → Nat → Nat
  | 0, x => x
  | f + 1, x => if B x = 32 then skp B Z f (x + 1) else x
theorem skp_y {B : Nat → Int32} {Z x : Nat} (h : x < Z) (c : B x = 32) : skp B Z (Z - x) x = skp B Z (Z - (x + 1)) (x + 1) := by rw [show Z - x = (Z - (x + 1)) + 1 by omega, skp, if_pos c]
theorem skp_n {B : Nat → Int32} {Z x : Nat} (h : x < Z) (c : ¬ B x = 32) : skp B Z (Z - x) x = x := by rw [show Z - x = (Z - (x + 1)) + 1 by omega, skp, if_neg c]
theorem skp_e {B : Nat → Int32} {Z x : Nat} (h : Z ≤ x) : skp B Z (Z - x) x = x := by rw [show Z - x = 0 by omega, skp]
def runT (B : Nat → Int32) (Z : Nat) (t : Int32) : Nat → Nat → Nat
  | 0, x => x
  | f + 1, x => if tkOf (B x) = t then runT B Z t f (x + 1) else x
theorem runT_y {B : Nat → Int32} {Z x : Nat} {t : Int32} (h : x < Z) (c : tkOf (B x) = t) : runT B Z t (Z - x) x = runT B Z t (Z - (x + 1)) (x + 1) := by rw [show Z - x = (Z - (x + 1)) + 1 by omega, runT, if_pos c]
theorem runT_n {B : Nat → Int32} {Z x : Nat} {t : Int32} (h : x < Z) (c : ¬ tkOf (B x) = t) : runT B Z t (Z - x) x = x := by rw [show Z - x = (Z - (x + 1)) + 1 by omega, runT, if_neg c]
theorem runT_e {B : Nat → Int32} {Z x : Nat} {t : Int32} (h : Z ≤ x) : runT B Z t (Z - x) x = x := by rw [show Z - x = 0 by omega, runT]
theorem skp_le {B : Nat → Int32} {Z : Nat} : ∀ (f x : Nat), x ≤ skp B Z f x ∧ skp B Z f x ≤ x + f
  | 0, x => ⟨Nat.le_refl _, Nat.le_refl _⟩
  | f + 1, x => by
    rw [skp]
    split
    · have := skp_le (B := B) (Z := Z) f (x + 1)
      omega
    · omega
theorem runT_le {B : Nat → Int32} {Z : Nat} {t : Int32} : ∀ (f x : Nat), x ≤ runT B Z t f x ∧ runT B Z t f x ≤ x + f
  | 0, x => ⟨Nat.le_refl _, Nat.le_refl _⟩
  | f + 1, x => by
    rw [runT]
    split
    · have := runT_le (B := B) (Z := Z) (t := t) f (x + 1)
      omega
    · omega
def wgT (B : Nat → Int32) (q : Nat) (t len : Int32) : Int32 := if len = 1 then t else if t = 2 then (if len = 2 then (if B q = 48 then 4 else 2) else 4) else t
def wgV (B : Nat → Int32) (q : Nat) (t len v : Int32) : Int32 := if len = 1 then (if t = 2 then B q - 48 else B q) else if t = 2 then (if len = 2 then (if B q = 48 then 0 else 10 * (B q - 48) + B (q + 1) - 48) else 0) else v
def stQ (B : Nat → Int32) (Z x : Nat) : Nat := skp B Z (Z - x) x
def stE (B : Nat → Int32) (Z q : Nat) : Nat := if q < Z then (if tkOf (B q) = 1 then runT B Z (tkOf (B q)) (Z - q) q else if tkOf (B q) = 2 then runT B Z (tkOf (B q)) (Z - q) q else q + 1) else q
def stT (B : Nat → Int32) (Z q : Nat) : Int32 := if q < Z then (if tkOf (B q) = 1 then wgT B q (tkOf (B q)) (nI (stE B Z q - q)) else if tkOf (B q) = 2 then wgT B q (tkOf (B q)) (nI (stE B Z q - q)) else tkOf (B q)) else 0
def stV (B : Nat → Int32) (Z q : Nat) : Int32 := if q < Z then (if tkOf (B q) = 1 then wgV B q (tkOf (B q)) (nI (stE B Z q - q)) 0 else if tkOf (B q) = 2 then wgV B q (tkOf (B q)) (nI (stE B Z q - q)) 0 else 0) else 0
theorem stQ_le {B : Nat → Int32} {Z x : Nat} (h : x ≤ Z) : x ≤ stQ B Z x ∧ stQ B Z x ≤ Z := by
  have := skp_le (B := B) (Z := Z) (Z - x) x
  unfold stQ
  omega
theorem stE_le {B : Nat → Int32} {Z q : Nat} (h : q ≤ Z) : q ≤ stE B Z q ∧ stE B Z q ≤ Z := by
  have := runT_le (B := B) (Z := Z) (t := tkOf (B q)) (Z - q) q
  unfold stE
  split
  · split
    · omega
    · split <;> omega
  · omega
/-- the text's size and the place of the reading are as they may be -/
def scOK (s : ScS) : Prop := ∃ Z x : Nat, Z ≤ 120 ∧ x ≤ Z ∧ s.size = nI Z ∧ s.next = nI x
def scAt (B : Nat → Int32) (Z x : Nat) (sz told : Int32) : ScS := (sz, B, nI (stE B Z (stQ B Z x)), nI (stQ B Z x), stT B Z (stQ B Z x), stV B Z (stQ B Z x), told)
def scStepD (s : ScS) : ScS := scAt s.bytes s.size.toNatClampNeg s.next.toNatClampNeg s.size s.told
theorem scStep_ex : ∃ f : ScS → ScS, ∀ s, f s = scStepD s := ⟨scStepD, fun _ => rfl⟩
/-- a step of the reading (behind a choice, so that no comparison looks into it) -/
noncomputable def scStep : ScS → ScS := Classical.choose scStep_ex
theorem scStep_def (s : ScS) : scStep s = scStepD s := Classical.choose_spec scStep_ex s
theorem scStep_eq {s : ScS} {Z x : Nat} (hz : s.size = nI Z) (hZ : Z ≤ 120) (hx : s.next = nI x) (hxZ : x ≤ Z) : scStep s = (s.size, s.bytes, nI (stE s.bytes Z (stQ s.bytes Z x)), nI (stQ s.bytes Z x), stT s.bytes Z (stQ s.bytes Z x), stV s.bytes Z (stQ s.bytes Z x), s.told) := by
  have h1 : s.size.toNatClampNeg = Z := by rw [hz]; exact nI_clamp (by omega)
  have h2 : s.next.toNatClampNeg = x := by rw [hx]; exact nI_clamp (by omega)
  rw [scStep_def]
  unfold scStepD
  rw [h1, h2]
  rfl
theorem scOK_step {s : ScS} (h : scOK s) : scOK (scStep s) := by
  obtain ⟨Z, x, hZ, hxZ, hz, hx⟩ := h
  rw [scStep_eq hz hZ hx hxZ]
  exact ⟨Z, _, hZ, (stE_le (stQ_le hxZ).2).2, hz, rfl⟩
def numOk (s : ScS) (lo hi : Int32) : Bool := decide (s.tok = 2) && wIn s.val lo hi
noncomputable def stopOk (s : ScS) : Bool := decide ((scStep s).tok = 3)
noncomputable def scStop (s : ScS) : ScS := if (scStep s).tok = 3 then scStep (scStep s) else scStep s
theorem scOK_stop {s : ScS} (h : scOK s) : scOK (scStop s) := by
  unfold scStop
  split
  · exact scOK_step (scOK_step h)
  · exact scOK_step h
def haOK (h : HaS) : Prop := ∃ n : Nat, n ≤ 8 ∧ h.mo.sayings = nI n
noncomputable def rPl (s : ScS) (h : HaS) : ScS × HaS × Bool := if numOk (scStep s) 4 24 then (scStop (scStep s), ((scStep s).val, h.loss, h.nich, h.mo, h.ats, h.str), stopOk (scStep s)) else (scStep s, h, false)
def scTold (s : ScS) : ScS := (s.size, s.bytes, s.next, s.tokAt, s.tok, s.val, 1)
noncomputable def rLo (s : ScS) (h : HaS) : ScS × HaS × Bool := if numOk (scStep s) 1 9 then (scStop (scTold (scStep s)), (h.pl, (scStep s).val, h.nich, h.mo, h.ats, h.str), stopOk (scTold (scStep s))) else (scStep s, h, false)
noncomputable def rNi (s : ScS) (h : HaS) : ScS × HaS × Bool := if numOk (scStep s) 0 (h.pl - 1) then (scStop (scStep s), (h.pl, h.loss, h.nich ||| ((1 : Int32) <<< ((scStep s).val &&& 31)), h.mo, h.ats, h.str), stopOk (scStep s)) else (scStep s, h, false)
def hAddS (h : HaS) (p sp wa lo : Int32) : HaS := (h.pl, h.loss, h.nich, moAdd h.mo h.mo.sayings.toNatClampNeg p sp wa lo, h.ats, h.str)
noncomputable def rSa (s : ScS) (h : HaS) : ScS × HaS × Bool :=
  if numOk (scStep s) 0 (h.pl - 1) then (if numOk (scStep (scStep s)) 1 6 then (if numOk (scStep (scStep (scStep s))) 0 1 then (if numOk (scStep (scStep (scStep (scStep s)))) 1 30 then
    (if decide (h.mo.sayings < 8) then (scStop (scStep (scStep (scStep (scStep s)))), hAddS h (scStep s).val (scStep (scStep s)).val (scStep (scStep (scStep s))).val (scStep (scStep (scStep (scStep s)))).val, stopOk (scStep (scStep (scStep (scStep s)))))
      else (scStep (scStep (scStep (scStep s))), hAddS h (scStep s).val (scStep (scStep s)).val (scStep (scStep (scStep s))).val (scStep (scStep (scStep (scStep s)))).val, false))
    else (scStep (scStep (scStep (scStep s))), h, false)) else (scStep (scStep (scStep s)), h, false)) else (scStep (scStep s), h, false)) else (scStep s, h, false)
theorem scOK_told {s : ScS} (h : scOK s) : scOK (scTold s) := h
theorem i_X3_append_X3 : ∀ w ∈ wsX30, w ∈ wsX3_append := by decide +kernel
theorem h_X3_append : yX3_append.cls = RX3 ∧ yX3_append.cls ≠ "java/lang/invoke/MethodHandle" ∧ yX3_append.cls ≠ "java/lang/invoke/VarHandle" ∧ (parseMethodDescriptor yX3_append.desc).map (fun d => d.parameters.length) = some 1 := by decide +kernel
set_option maxHeartbeats 4000000 in
set_option maxRecDepth 100000 in
theorem c_X3_append (lz : Launch) (G : gG) (b : Nat → Nat) (s : ScS) (Z : Nat) (cc : Int32) (hz : s.size = nI Z) (hZ : Z ≤ 120) : gWr lz yX3_append wsX3_append 0 G [.ref (b 0), .int cc] (wSc b G.2.1 s) (wSc b G.2.1 (scApp s Z cc)) (some (.int (bI (decide (s.size < 120))))) := by
  refine g_wr (by decide) rfl (Nat.le_of_ble_eq_true rfl) ?_
  intro pz ez sz mz bz tz cz hx hb hr hml hown hts hlocks hK A hAe hP hD hS ls hl
  have hl : lv_has ls 2 [(0, .ref (b 0)), (1, .int cc)] := hl
  have f15 := hts (.fieldLink RX3 15 "WhisperRing$Script" "size" "I") (by decide +kernel)
  have f9 := hts (.fieldLink RX3 9 "WhisperRing$Script" "bytes" "[I") (by decide +kernel)
  refine lv_aload_n hx hb dX3_append_0 rfl (lv_at hl 0 rfl) ?_
  refine va_get (D := G.1) (ci := 3) (v := .int s.size) (C := RX3) (T := TX3) (N := 7) hx hb hts i_X3_append_X3 hown hK.1 hP 0 rfl rfl 0 (by decide) f15 (fun _ h9 => h9) rfl dX3_append_1 ?_
  refine lv_bipush (v := 120) hx hb dX3_append_4 (by decide) ?_
  refine lv_icmp_lt (tgt := 11) hx hb dX3_append_6 (by decide) (fun c_1 => ?_) (fun c_1 => ?_)
  · skip
    have h6 : Z < 120 := gl_ll hz (y := 120) (k := 120) rfl (by omega) (by decide) c_1
    refine lv_aload_n hx hb dX3_append_11 rfl (lv_at hl 0 rfl) ?_
    refine va_get (D := G.1) (ci := 3) (v := .ref (b 1)) (C := RX3) (T := TX3) (N := 7) hx hb hts i_X3_append_X3 hown hK.1 hP 0 rfl rfl 1 (by decide) f9 (fun _ h9 => h9) rfl dX3_append_12 ?_
    refine lv_aload_n hx hb dX3_append_15 rfl (lv_at hl 0 rfl) ?_
    refine va_get (D := G.1) (ci := 3) (v := .int s.size) (C := RX3) (T := TX3) (N := 7) hx hb hts i_X3_append_X3 hown hK.1 hP 0 rfl rfl 0 (by decide) f15 (fun _ h9 => h9) rfl dX3_append_16 ?_
    refine g_top (y := nI Z) (hz) ?_
    refine lv_iload_n hx hb dX3_append_19 rfl (lv_at hl 1 rfl) ?_
    refine g_iast hx hb hK.1 hP hD hS 1 0 rfl rfl (i := Z) (by omega) (by decide) dX3_append_20 (fun H locs hP hD hS => ?_)
    have hP : va_P G.1 vwCl (wSc b G.2.1 (s.size, upd s.bytes Z cc, s.next, s.tokAt, s.tok, s.val, s.told)) H := hP
    have hD : va_D A (wSc b G.2.1 (s.size, upd s.bytes Z cc, s.next, s.tokAt, s.tok, s.val, s.told)) := hD
    refine lv_aload_n hx hb dX3_append_21 rfl (lv_at hl 0 rfl) ?_
    refine lv_dup hx hb dX3_append_22 rfl ?_
    refine va_get (D := G.1) (ci := 3) (v := .int s.size) (C := RX3) (T := TX3) (N := 7) hx hb hts i_X3_append_X3 hown hK.1 hP 0 rfl rfl 0 (by decide) f15 (fun _ h9 => h9) rfl dX3_append_23 ?_
    refine lv_iconst (v := 1) hx hb dX3_append_26 (by decide) ?_
    refine lv_iadd hx hb dX3_append_27 ?_
    refine g_top (y := nI (Z + 1)) (by rw [hz]; exact nI_1 Z) ?_
    refine va_put (D := G.1) (ci := 3) (v := .int (nI (Z + 1))) (ty := .int) (C := RX3) (T := TX3) (N := 7) hx hb hts i_X3_append_X3 tyX3 tyX3_ok nmX3 hown hK.1 hP hD hS 0 rfl rfl 0 (by decide) f15 (fun _ h9 => h9) rfl (by decide +kernel) rfl rfl (Nat.le_of_ble_eq_true rfl) dX3_append_28 (fun H locs hP hD hS => ?_)
    have hP : va_P G.1 vwCl (wSc b G.2.1 (nI (Z + 1), upd s.bytes Z cc, s.next, s.tokAt, s.tok, s.val, s.told)) H := hP
    have hD : va_D A (wSc b G.2.1 (nI (Z + 1), upd s.bytes Z cc, s.next, s.tokAt, s.tok, s.val, s.told)) := hD
    refine lv_iconst (v := 1) hx hb dX3_append_31 (by decide) ?_
    have hP : va_P G.1 vwCl (wSc b G.2.1 (scApp s Z cc)) H := by
      rw [scApp]
      (first | rw [if_pos c_1] | rw [if_neg c_1])
      exact hP
    exact g_wz hx hb hr hlocks hAe hP hS dX3_append_32 (by simp [bI, c_1])
  · skip
    refine lv_iconst (v := 0) hx hb dX3_append_9 (by decide) ?_
    have hP : va_P G.1 vwCl (wSc b G.2.1 (scApp s Z cc)) sz.heap := by
      rw [scApp]
      (first | rw [if_pos c_1] | rw [if_neg c_1])
      exact hP
    exact g_wz hx hb hr hlocks hAe hP hS dX3_append_10 (by simp [bI, c_1])

theorem h_X3_tokenOf : yX3_tokenOf.cls ≠ "java/lang/invoke/MethodHandle" ∧ yX3_tokenOf.cls ≠ "java/lang/invoke/VarHandle" ∧ (parseMethodDescriptor yX3_tokenOf.desc).map (fun d => d.parameters.length) = some 1 := by decide +kernel
set_option maxHeartbeats 4000000 in
set_option maxRecDepth 100000 in
theorem c_X3_tokenOf (lz : Launch) (G : gG) (x : Int32) : gRd lz yX3_tokenOf wsX3_tokenOf 0 G [.int x] ([]) (tkOf x) := by
  refine g_rd (by decide) rfl (Nat.le_of_ble_eq_true rfl) ?_
  intro pz ez sz mz bz tz cz hx hb hr hml hown hts hlocks hP hK ls hl
  have hl : lv_has ls 1 [(0, .int x)] := hl
  refine lv_iload_n hx hb dX3_tokenOf_0 rfl (lv_at hl 0 rfl) ?_
  refine lv_bipush (v := 97) hx hb dX3_tokenOf_1 (by decide) ?_
  refine lv_icmp_lt (tgt := 14) hx hb dX3_tokenOf_3 (by decide) (fun c_1 => ?_) (fun c_1 => ?_)
  · skip
    refine lv_iload_n hx hb dX3_tokenOf_14 rfl (lv_at hl 0 rfl) ?_
    refine lv_bipush (v := 48) hx hb dX3_tokenOf_15 (by decide) ?_
    refine lv_icmp_lt (tgt := 28) hx hb dX3_tokenOf_17 (by decide) (fun c_2 => ?_) (fun c_2 => ?_)
    · skip
      refine lv_iload_n hx hb dX3_tokenOf_28 rfl (lv_at hl 0 rfl) ?_
      refine lv_bipush (v := 59) hx hb dX3_tokenOf_29 (by decide) ?_
      refine lv_icmp_ne (tgt := 38) hx hb dX3_tokenOf_31 (by decide) (fun c_3 => ?_) (fun c_3 => ?_)
      · skip
        refine lv_iconst (v := 4) hx hb dX3_tokenOf_38 (by decide) ?_
        exact g_ri hx hb hr hlocks dX3_tokenOf_39 (by simp [tkOf, wIn, c_1, c_2, c_3])
      · skip
        refine lv_iconst (v := 3) hx hb dX3_tokenOf_34 (by decide) ?_
        refine lv_goto (tgt := 39) hx hb dX3_tokenOf_35 (by decide) ?_
        exact g_ri hx hb hr hlocks dX3_tokenOf_39 (by simp [tkOf, wIn, c_1, c_2, c_3])
    · skip
      refine lv_iload_n hx hb dX3_tokenOf_20 rfl (lv_at hl 0 rfl) ?_
      refine lv_bipush (v := 57) hx hb dX3_tokenOf_21 (by decide) ?_
      refine lv_icmp_gt (tgt := 28) hx hb dX3_tokenOf_23 (by decide) (fun c_4 => ?_) (fun c_4 => ?_)
      · skip
        refine lv_iload_n hx hb dX3_tokenOf_28 rfl (lv_at hl 0 rfl) ?_
        refine lv_bipush (v := 59) hx hb dX3_tokenOf_29 (by decide) ?_
        refine lv_icmp_ne (tgt := 38) hx hb dX3_tokenOf_31 (by decide) (fun c_5 => ?_) (fun c_5 => ?_)
        · skip
          refine lv_iconst (v := 4) hx hb dX3_tokenOf_38 (by decide) ?_
          exact g_ri hx hb hr hlocks dX3_tokenOf_39 (by simp [tkOf, wIn, c_1, c_2, c_4, c_5])
        · skip
          refine lv_iconst (v := 3) hx hb dX3_tokenOf_34 (by decide) ?_
          refine lv_goto (tgt := 39) hx hb dX3_tokenOf_35 (by decide) ?_
          exact g_ri hx hb hr hlocks dX3_tokenOf_39 (by simp [tkOf, wIn, c_1, c_2, c_4, c_5])
      · skip
        refine lv_iconst (v := 2) hx hb dX3_tokenOf_26 (by decide) ?_
        exact g_ri hx hb hr hlocks dX3_tokenOf_27 (by simp [tkOf, wIn, c_1, c_2, c_4])
  · skip
    refine lv_iload_n hx hb dX3_tokenOf_6 rfl (lv_at hl 0 rfl) ?_
    refine lv_bipush (v := 122) hx hb dX3_tokenOf_7 (by decide) ?_
    refine lv_icmp_gt (tgt := 14) hx hb dX3_tokenOf_9 (by decide) (fun c_6 => ?_) (fun c_6 => ?_)
    · skip
      refine lv_iload_n hx hb dX3_tokenOf_14 rfl (lv_at hl 0 rfl) ?_
      refine lv_bipush (v := 48) hx hb dX3_tokenOf_15 (by decide) ?_
      refine lv_icmp_lt (tgt := 28) hx hb dX3_tokenOf_17 (by decide) (fun c_7 => ?_) (fun c_7 => ?_)
      · skip
        refine lv_iload_n hx hb dX3_tokenOf_28 rfl (lv_at hl 0 rfl) ?_
        refine lv_bipush (v := 59) hx hb dX3_tokenOf_29 (by decide) ?_
        refine lv_icmp_ne (tgt := 38) hx hb dX3_tokenOf_31 (by decide) (fun c_8 => ?_) (fun c_8 => ?_)
        · skip
          refine lv_iconst (v := 4) hx hb dX3_tokenOf_38 (by decide) ?_
          exact g_ri hx hb hr hlocks dX3_tokenOf_39 (by simp [tkOf, wIn, c_1, c_6, c_7, c_8])
        · skip
          refine lv_iconst (v := 3) hx hb dX3_tokenOf_34 (by decide) ?_
          refine lv_goto (tgt := 39) hx hb dX3_tokenOf_35 (by decide) ?_
          exact g_ri hx hb hr hlocks dX3_tokenOf_39 (by simp [tkOf, wIn, c_1, c_6, c_7, c_8])
      · skip
        refine lv_iload_n hx hb dX3_tokenOf_20 rfl (lv_at hl 0 rfl) ?_
        refine lv_bipush (v := 57) hx hb dX3_tokenOf_21 (by decide) ?_
        refine lv_icmp_gt (tgt := 28) hx hb dX3_tokenOf_23 (by decide) (fun c_9 => ?_) (fun c_9 => ?_)
        · skip
          refine lv_iload_n hx hb dX3_tokenOf_28 rfl (lv_at hl 0 rfl) ?_
          refine lv_bipush (v := 59) hx hb dX3_tokenOf_29 (by decide) ?_
          refine lv_icmp_ne (tgt := 38) hx hb dX3_tokenOf_31 (by decide) (fun c_10 => ?_) (fun c_10 => ?_)
          · skip
            refine lv_iconst (v := 4) hx hb dX3_tokenOf_38 (by decide) ?_
            exact g_ri hx hb hr hlocks dX3_tokenOf_39 (by simp [tkOf, wIn, c_1, c_6, c_7, c_9, c_10])
          · skip
            refine lv_iconst (v := 3) hx hb dX3_tokenOf_34 (by decide) ?_
            refine lv_goto (tgt := 39) hx hb dX3_tokenOf_35 (by decide) ?_
            exact g_ri hx hb hr hlocks dX3_tokenOf_39 (by simp [tkOf, wIn, c_1, c_6, c_7, c_9, c_10])
        · skip
          refine lv_iconst (v := 2) hx hb dX3_tokenOf_26 (by decide) ?_
          exact g_ri hx hb hr hlocks dX3_tokenOf_27 (by simp [tkOf, wIn, c_1, c_6, c_7, c_9])
    · skip
      refine lv_iconst (v := 1) hx hb dX3_tokenOf_12 (by decide) ?_
      exact g_ri hx hb hr hlocks dX3_tokenOf_13 (by simp [tkOf, wIn, c_1, c_6])

theorem i_X3_weigh_X3 : ∀ w ∈ wsX30, w ∈ wsX3_weigh := by decide +kernel
theorem h_X3_weigh : yX3_weigh.cls = RX3 ∧ yX3_weigh.cls ≠ "java/lang/invoke/MethodHandle" ∧ yX3_weigh.cls ≠ "java/lang/invoke/VarHandle" ∧ (parseMethodDescriptor yX3_weigh.desc).map (fun d => d.parameters.length) = some 1 := by decide +kernel
set_option maxHeartbeats 4000000 in
set_option maxRecDepth 100000 in
theorem c_X3_weigh (lz : Launch) (G : gG) (b : Nat → Nat) (s : ScS) (Z q L : Nat) (hz : s.size = nI Z) (hZ : Z ≤ 120) (hq : s.tokAt = nI q) (hqZ : q < Z) (hL : q + L ≤ Z) : gWr lz yX3_weigh wsX3_weigh 0 G [.ref (b 0), .int (nI L)] (wSc b G.2.1 s) (wSc b G.2.1 (s.size, s.bytes, s.next, s.tokAt, wgT s.bytes q s.tok (nI L), wgV s.bytes q s.tok (nI L) s.val, s.told)) none := by
  refine g_wr (by decide) rfl (Nat.le_of_ble_eq_true rfl) ?_
  intro pz ez sz mz bz tz cz hx hb hr hml hown hts hlocks hK A hAe hP hD hS ls hl
  have hl : lv_has ls 3 [(0, .ref (b 0)), (1, .int (nI L))] := hl
  have f15 := hts (.fieldLink RX3 15 "WhisperRing$Script" "size" "I") (by decide +kernel)
  have f34 := hts (.fieldLink RX3 34 "WhisperRing$Script" "token" "I") (by decide +kernel)
  have f41 := hts (.fieldLink RX3 41 "WhisperRing$Script" "tokenAt" "I") (by decide +kernel)
  have f44 := hts (.fieldLink RX3 44 "WhisperRing$Script" "value" "I") (by decide +kernel)
  have f9 := hts (.fieldLink RX3 9 "WhisperRing$Script" "bytes" "[I") (by decide +kernel)
  refine lv_iload_n hx hb dX3_weigh_0 rfl (lv_at hl 1 rfl) ?_
  refine lv_iconst (v := 1) hx hb dX3_weigh_1 (by decide) ?_
  refine lv_icmp_ne (tgt := 55) hx hb dX3_weigh_2 (by decide) (fun c_1 => ?_) (fun c_1 => ?_)
  · skip
    refine lv_aload_n hx hb dX3_weigh_55 rfl (lv_at hl 0 rfl) ?_
    refine va_get (D := G.1) (ci := 3) (v := .int s.tok) (C := RX3) (T := TX3) (N := 7) hx hb hts i_X3_weigh_X3 hown hK.1 hP 0 rfl rfl 4 (by decide) f34 (fun _ h9 => h9) rfl dX3_weigh_56 ?_
    refine lv_iconst (v := 2) hx hb dX3_weigh_59 (by decide) ?_
    refine lv_icmp_ne (tgt := 156) hx hb dX3_weigh_60 (by decide) (fun c_2 => ?_) (fun c_2 => ?_)
    · skip
      have hP : va_P G.1 vwCl (wSc b G.2.1 (s.size, s.bytes, s.next, s.tokAt, wgT s.bytes q s.tok (nI L), wgV s.bytes q s.tok (nI L) s.val, s.told)) sz.heap := by
        rw [wgT, wgV]
        (first | rw [if_pos c_1, if_pos c_1] | rw [if_neg c_1, if_neg c_1] | rw [if_pos c_1] | rw [if_neg c_1])
        (first | rw [if_pos c_2, if_pos c_2] | rw [if_neg c_2, if_neg c_2] | rw [if_pos c_2] | rw [if_neg c_2])
        exact hP
      exact g_wv hx hb hr hlocks hAe hP hS dX3_weigh_156
    · skip
      refine lv_iload_n hx hb dX3_weigh_63 rfl (lv_at hl 1 rfl) ?_
      refine lv_iconst (v := 2) hx hb dX3_weigh_64 (by decide) ?_
      refine lv_icmp_ne (tgt := 99) hx hb dX3_weigh_65 (by decide) (fun c_3 => ?_) (fun c_3 => ?_)
      · skip
        refine lv_iconst (v := 0) hx hb dX3_weigh_99 (by decide) ?_
        refine lv_istore_n (lv' := [(2, .int 0), (0, .ref (b 0)), (1, .int (nI L))]) hx hb dX3_weigh_100 rfl hl (by decide) rfl (fun ls hl => ?_)
        refine lv_aload_n hx hb dX3_weigh_101 rfl (lv_at hl 1 rfl) ?_
        refine lv_iload_n hx hb dX3_weigh_102 rfl (lv_at hl 0 rfl) ?_
        refine lv_if_eq (tgt := 110) hx hb dX3_weigh_103 (by decide) (fun c_4 => ?_) (fun c_4 => False.elim (by revert c_4; decide))
        refine lv_iconst (v := 4) hx hb dX3_weigh_110 (by decide) ?_
        refine va_put (D := G.1) (ci := 3) (v := .int 4) (ty := .int) (C := RX3) (T := TX3) (N := 7) hx hb hts i_X3_weigh_X3 tyX3 tyX3_ok nmX3 hown hK.1 hP hD hS 0 rfl rfl 4 (by decide) f34 (fun _ h9 => h9) rfl (by decide +kernel) rfl rfl (Nat.le_of_ble_eq_true rfl) dX3_weigh_111 (fun H locs hP hD hS => ?_)
        have hP : va_P G.1 vwCl (wSc b G.2.1 (s.size, s.bytes, s.next, s.tokAt, 4, s.val, s.told)) H := hP
        have hD : va_D A (wSc b G.2.1 (s.size, s.bytes, s.next, s.tokAt, 4, s.val, s.told)) := hD
        refine lv_aload_n hx hb dX3_weigh_114 rfl (lv_at hl 1 rfl) ?_
        refine lv_iload_n hx hb dX3_weigh_115 rfl (lv_at hl 0 rfl) ?_
        refine lv_if_eq (tgt := 152) hx hb dX3_weigh_116 (by decide) (fun c_5 => ?_) (fun c_5 => False.elim (by revert c_5; decide))
        refine lv_iconst (v := 0) hx hb dX3_weigh_152 (by decide) ?_
        refine va_put (D := G.1) (ci := 3) (v := .int 0) (ty := .int) (C := RX3) (T := TX3) (N := 7) hx hb hts i_X3_weigh_X3 tyX3 tyX3_ok nmX3 hown hK.1 hP hD hS 0 rfl rfl 5 (by decide) f44 (fun _ h9 => h9) rfl (by decide +kernel) rfl rfl (Nat.le_of_ble_eq_true rfl) dX3_weigh_153 (fun H locs hP hD hS => ?_)
        have hP : va_P G.1 vwCl (wSc b G.2.1 (s.size, s.bytes, s.next, s.tokAt, 4, 0, s.told)) H := hP
        have hD : va_D A (wSc b G.2.1 (s.size, s.bytes, s.next, s.tokAt, 4, 0, s.told)) := hD
        have hP : va_P G.1 vwCl (wSc b G.2.1 (s.size, s.bytes, s.next, s.tokAt, wgT s.bytes q s.tok (nI L), wgV s.bytes q s.tok (nI L) s.val, s.told)) H := by
          rw [wgT, wgV]
          (first | rw [if_pos c_1, if_pos c_1] | rw [if_neg c_1, if_neg c_1] | rw [if_pos c_1] | rw [if_neg c_1])
          (first | rw [if_pos c_2, if_pos c_2] | rw [if_neg c_2, if_neg c_2] | rw [if_pos c_2] | rw [if_neg c_2])
          (first | rw [if_pos c_3, if_pos c_3] | rw [if_neg c_3, if_neg c_3] | rw [if_pos c_3] | rw [if_neg c_3])
          exact hP
        exact g_wv hx hb hr hlocks hAe hP hS dX3_weigh_156
      · skip
        have hL2 : L = 2 := (nI_eq (by omega) (by decide)).mp c_3
        refine lv_aload_n hx hb dX3_weigh_68 rfl (lv_at hl 0 rfl) ?_
        refine va_get (D := G.1) (ci := 3) (v := .int s.tokAt) (C := RX3) (T := TX3) (N := 7) hx hb hts i_X3_weigh_X3 hown hK.1 hP 0 rfl rfl 3 (by decide) f41 (fun _ h9 => h9) rfl dX3_weigh_69 ?_
        refine lv_iconst (v := 1) hx hb dX3_weigh_72 (by decide) ?_
        refine lv_iadd hx hb dX3_weigh_73 ?_
        refine lv_aload_n hx hb dX3_weigh_74 rfl (lv_at hl 0 rfl) ?_
        refine va_get (D := G.1) (ci := 3) (v := .int s.size) (C := RX3) (T := TX3) (N := 7) hx hb hts i_X3_weigh_X3 hown hK.1 hP 0 rfl rfl 0 (by decide) f15 (fun _ h9 => h9) rfl dX3_weigh_75 ?_
        refine lv_icmp_ge (tgt := 99) hx hb dX3_weigh_78 (by decide) (fun c_6 => absurd c_6 (by rw [hz, hq, nI_1]; exact nI_ge (by omega) (by omega))) (fun c_6 => ?_)
        have c_6 := gl_nle c_6
        refine lv_aload_n hx hb dX3_weigh_81 rfl (lv_at hl 0 rfl) ?_
        refine va_get (D := G.1) (ci := 3) (v := .ref (b 1)) (C := RX3) (T := TX3) (N := 7) hx hb hts i_X3_weigh_X3 hown hK.1 hP 0 rfl rfl 1 (by decide) f9 (fun _ h9 => h9) rfl dX3_weigh_82 ?_
        refine lv_aload_n hx hb dX3_weigh_85 rfl (lv_at hl 0 rfl) ?_
        refine va_get (D := G.1) (ci := 3) (v := .int s.tokAt) (C := RX3) (T := TX3) (N := 7) hx hb hts i_X3_weigh_X3 hown hK.1 hP 0 rfl rfl 3 (by decide) f41 (fun _ h9 => h9) rfl dX3_weigh_86 ?_
        refine g_top (y := nI q) (hq) ?_
        refine g_iald hx hb hK.1 hP 1 0 rfl rfl (i := q) (by omega) (by decide) dX3_weigh_89 ?_
        refine lv_bipush (v := 48) hx hb dX3_weigh_90 (by decide) ?_
        refine lv_icmp_eq (tgt := 99) hx hb dX3_weigh_92 (by decide) (fun c_7 => ?_) (fun c_7 => ?_)
        · skip
          refine lv_iconst (v := 0) hx hb dX3_weigh_99 (by decide) ?_
          refine lv_istore_n (lv' := [(2, .int 0), (0, .ref (b 0)), (1, .int (nI L))]) hx hb dX3_weigh_100 rfl hl (by decide) rfl (fun ls hl => ?_)
          refine lv_aload_n hx hb dX3_weigh_101 rfl (lv_at hl 1 rfl) ?_
          refine lv_iload_n hx hb dX3_weigh_102 rfl (lv_at hl 0 rfl) ?_
          refine lv_if_eq (tgt := 110) hx hb dX3_weigh_103 (by decide) (fun c_8 => ?_) (fun c_8 => False.elim (by revert c_8; decide))
          refine lv_iconst (v := 4) hx hb dX3_weigh_110 (by decide) ?_
          refine va_put (D := G.1) (ci := 3) (v := .int 4) (ty := .int) (C := RX3) (T := TX3) (N := 7) hx hb hts i_X3_weigh_X3 tyX3 tyX3_ok nmX3 hown hK.1 hP hD hS 0 rfl rfl 4 (by decide) f34 (fun _ h9 => h9) rfl (by decide +kernel) rfl rfl (Nat.le_of_ble_eq_true rfl) dX3_weigh_111 (fun H locs hP hD hS => ?_)
          have hP : va_P G.1 vwCl (wSc b G.2.1 (s.size, s.bytes, s.next, s.tokAt, 4, s.val, s.told)) H := hP
          have hD : va_D A (wSc b G.2.1 (s.size, s.bytes, s.next, s.tokAt, 4, s.val, s.told)) := hD
          refine lv_aload_n hx hb dX3_weigh_114 rfl (lv_at hl 1 rfl) ?_
          refine lv_iload_n hx hb dX3_weigh_115 rfl (lv_at hl 0 rfl) ?_
          refine lv_if_eq (tgt := 152) hx hb dX3_weigh_116 (by decide) (fun c_9 => ?_) (fun c_9 => False.elim (by revert c_9; decide))
          refine lv_iconst (v := 0) hx hb dX3_weigh_152 (by decide) ?_
          refine va_put (D := G.1) (ci := 3) (v := .int 0) (ty := .int) (C := RX3) (T := TX3) (N := 7) hx hb hts i_X3_weigh_X3 tyX3 tyX3_ok nmX3 hown hK.1 hP hD hS 0 rfl rfl 5 (by decide) f44 (fun _ h9 => h9) rfl (by decide +kernel) rfl rfl (Nat.le_of_ble_eq_true rfl) dX3_weigh_153 (fun H locs hP hD hS => ?_)
          have hP : va_P G.1 vwCl (wSc b G.2.1 (s.size, s.bytes, s.next, s.tokAt, 4, 0, s.told)) H := hP
          have hD : va_D A (wSc b G.2.1 (s.size, s.bytes, s.next, s.tokAt, 4, 0, s.told)) := hD
          have hP : va_P G.1 vwCl (wSc b G.2.1 (s.size, s.bytes, s.next, s.tokAt, wgT s.bytes q s.tok (nI L), wgV s.bytes q s.tok (nI L) s.val, s.told)) H := by
            rw [wgT, wgV]
            (first | rw [if_pos c_1, if_pos c_1] | rw [if_neg c_1, if_neg c_1] | rw [if_pos c_1] | rw [if_neg c_1])
            (first | rw [if_pos c_2, if_pos c_2] | rw [if_neg c_2, if_neg c_2] | rw [if_pos c_2] | rw [if_neg c_2])
            (first | rw [if_pos c_3, if_pos c_3] | rw [if_neg c_3, if_neg c_3] | rw [if_pos c_3] | rw [if_neg c_3])
            (first | rw [if_pos c_7, if_pos c_7] | rw [if_neg c_7, if_neg c_7] | rw [if_pos c_7] | rw [if_neg c_7])
            exact hP
          exact g_wv hx hb hr hlocks hAe hP hS dX3_weigh_156
        · skip
          refine lv_iconst (v := 1) hx hb dX3_weigh_95 (by decide) ?_
          refine lv_goto (tgt := 100) hx hb dX3_weigh_96 (by decide) ?_
          refine lv_istore_n (lv' := [(2, .int 1), (0, .ref (b 0)), (1, .int (nI L))]) hx hb dX3_weigh_100 rfl hl (by decide) rfl (fun ls hl => ?_)
          refine lv_aload_n hx hb dX3_weigh_101 rfl (lv_at hl 1 rfl) ?_
          refine lv_iload_n hx hb dX3_weigh_102 rfl (lv_at hl 0 rfl) ?_
          refine lv_if_eq (tgt := 110) hx hb dX3_weigh_103 (by decide) (fun c_10 => False.elim (by revert c_10; decide)) (fun c_10 => ?_)
          refine lv_iconst (v := 2) hx hb dX3_weigh_106 (by decide) ?_
          refine lv_goto (tgt := 111) hx hb dX3_weigh_107 (by decide) ?_
          refine va_put (D := G.1) (ci := 3) (v := .int 2) (ty := .int) (C := RX3) (T := TX3) (N := 7) hx hb hts i_X3_weigh_X3 tyX3 tyX3_ok nmX3 hown hK.1 hP hD hS 0 rfl rfl 4 (by decide) f34 (fun _ h9 => h9) rfl (by decide +kernel) rfl rfl (Nat.le_of_ble_eq_true rfl) dX3_weigh_111 (fun H locs hP hD hS => ?_)
          have hP : va_P G.1 vwCl (wSc b G.2.1 (s.size, s.bytes, s.next, s.tokAt, 2, s.val, s.told)) H := hP
          have hD : va_D A (wSc b G.2.1 (s.size, s.bytes, s.next, s.tokAt, 2, s.val, s.told)) := hD
          refine lv_aload_n hx hb dX3_weigh_114 rfl (lv_at hl 1 rfl) ?_
          refine lv_iload_n hx hb dX3_weigh_115 rfl (lv_at hl 0 rfl) ?_
          refine lv_if_eq (tgt := 152) hx hb dX3_weigh_116 (by decide) (fun c_11 => False.elim (by revert c_11; decide)) (fun c_11 => ?_)
          refine lv_bipush (v := 10) hx hb dX3_weigh_119 (by decide) ?_
          refine lv_aload_n hx hb dX3_weigh_121 rfl (lv_at hl 1 rfl) ?_
          refine va_get (D := G.1) (ci := 3) (v := .ref (b 1)) (C := RX3) (T := TX3) (N := 7) hx hb hts i_X3_weigh_X3 hown hK.1 hP 0 rfl rfl 1 (by decide) f9 (fun _ h9 => h9) rfl dX3_weigh_122 ?_
          refine lv_aload_n hx hb dX3_weigh_125 rfl (lv_at hl 1 rfl) ?_
          refine va_get (D := G.1) (ci := 3) (v := .int s.tokAt) (C := RX3) (T := TX3) (N := 7) hx hb hts i_X3_weigh_X3 hown hK.1 hP 0 rfl rfl 3 (by decide) f41 (fun _ h9 => h9) rfl dX3_weigh_126 ?_
          refine g_top (y := nI q) (hq) ?_
          refine g_iald hx hb hK.1 hP 1 0 rfl rfl (i := q) (by omega) (by decide) dX3_weigh_129 ?_
          refine lv_bipush (v := 48) hx hb dX3_weigh_130 (by decide) ?_
          refine lv_isub hx hb dX3_weigh_132 ?_
          refine lv_imul hx hb dX3_weigh_133 ?_
          refine lv_aload_n hx hb dX3_weigh_134 rfl (lv_at hl 1 rfl) ?_
          refine va_get (D := G.1) (ci := 3) (v := .ref (b 1)) (C := RX3) (T := TX3) (N := 7) hx hb hts i_X3_weigh_X3 hown hK.1 hP 0 rfl rfl 1 (by decide) f9 (fun _ h9 => h9) rfl dX3_weigh_135 ?_
          refine lv_aload_n hx hb dX3_weigh_138 rfl (lv_at hl 1 rfl) ?_
          refine va_get (D := G.1) (ci := 3) (v := .int s.tokAt) (C := RX3) (T := TX3) (N := 7) hx hb hts i_X3_weigh_X3 hown hK.1 hP 0 rfl rfl 3 (by decide) f41 (fun _ h9 => h9) rfl dX3_weigh_139 ?_
          refine lv_iconst (v := 1) hx hb dX3_weigh_142 (by decide) ?_
          refine lv_iadd hx hb dX3_weigh_143 ?_
          refine g_top (y := nI (q + 1)) (by rw [hq]; exact nI_1 q) ?_
          refine g_iald hx hb hK.1 hP 1 0 rfl rfl (i := (q + 1)) (by omega) (by decide) dX3_weigh_144 ?_
          refine lv_iadd hx hb dX3_weigh_145 ?_
          refine lv_bipush (v := 48) hx hb dX3_weigh_146 (by decide) ?_
          refine lv_isub hx hb dX3_weigh_148 ?_
          refine lv_goto (tgt := 153) hx hb dX3_weigh_149 (by decide) ?_
          refine va_put (D := G.1) (ci := 3) (v := .int (((10 * ((s.bytes q) - 48)) + (s.bytes (q + 1))) - 48)) (ty := .int) (C := RX3) (T := TX3) (N := 7) hx hb hts i_X3_weigh_X3 tyX3 tyX3_ok nmX3 hown hK.1 hP hD hS 0 rfl rfl 5 (by decide) f44 (fun _ h9 => h9) rfl (by decide +kernel) rfl rfl (Nat.le_of_ble_eq_true rfl) dX3_weigh_153 (fun H locs hP hD hS => ?_)
          have hP : va_P G.1 vwCl (wSc b G.2.1 (s.size, s.bytes, s.next, s.tokAt, 2, ((10 * ((s.bytes q) - 48)) + (s.bytes (q + 1))) - 48, s.told)) H := hP
          have hD : va_D A (wSc b G.2.1 (s.size, s.bytes, s.next, s.tokAt, 2, ((10 * ((s.bytes q) - 48)) + (s.bytes (q + 1))) - 48, s.told)) := hD
          have hP : va_P G.1 vwCl (wSc b G.2.1 (s.size, s.bytes, s.next, s.tokAt, wgT s.bytes q s.tok (nI L), wgV s.bytes q s.tok (nI L) s.val, s.told)) H := by
            rw [wgT, wgV]
            (first | rw [if_pos c_1, if_pos c_1] | rw [if_neg c_1, if_neg c_1] | rw [if_pos c_1] | rw [if_neg c_1])
            (first | rw [if_pos c_2, if_pos c_2] | rw [if_neg c_2, if_neg c_2] | rw [if_pos c_2] | rw [if_neg c_2])
            (first | rw [if_pos c_3, if_pos c_3] | rw [if_neg c_3, if_neg c_3] | rw [if_pos c_3] | rw [if_neg c_3])
            (first | rw [if_pos c_7, if_pos c_7] | rw [if_neg c_7, if_neg c_7] | rw [if_pos c_7] | rw [if_neg c_7])
            exact hP
          exact g_wv hx hb hr hlocks hAe hP hS dX3_weigh_156
  · skip
    refine lv_aload_n hx hb dX3_weigh_5 rfl (lv_at hl 0 rfl) ?_
    refine va_get (D := G.1) (ci := 3) (v := .int s.tokAt) (C := RX3) (T := TX3) (N := 7) hx hb hts i_X3_weigh_X3 hown hK.1 hP 0 rfl rfl 3 (by decide) f41 (fun _ h9 => h9) rfl dX3_weigh_6 ?_
    refine lv_aload_n hx hb dX3_weigh_9 rfl (lv_at hl 0 rfl) ?_
    refine va_get (D := G.1) (ci := 3) (v := .int s.size) (C := RX3) (T := TX3) (N := 7) hx hb hts i_X3_weigh_X3 hown hK.1 hP 0 rfl rfl 0 (by decide) f15 (fun _ h9 => h9) rfl dX3_weigh_10 ?_
    refine lv_icmp_ge (tgt := 55) hx hb dX3_weigh_13 (by decide) (fun c_12 => absurd c_12 (by rw [hz, hq]; exact nI_ge hqZ (by omega))) (fun c_12 => ?_)
    have c_12 := gl_nle c_12
    refine lv_aload_n hx hb dX3_weigh_16 rfl (lv_at hl 0 rfl) ?_
    refine lv_aload_n hx hb dX3_weigh_17 rfl (lv_at hl 0 rfl) ?_
    refine va_get (D := G.1) (ci := 3) (v := .int s.tok) (C := RX3) (T := TX3) (N := 7) hx hb hts i_X3_weigh_X3 hown hK.1 hP 0 rfl rfl 4 (by decide) f34 (fun _ h9 => h9) rfl dX3_weigh_18 ?_
    refine lv_iconst (v := 2) hx hb dX3_weigh_21 (by decide) ?_
    refine lv_icmp_ne (tgt := 40) hx hb dX3_weigh_22 (by decide) (fun c_13 => ?_) (fun c_13 => ?_)
    · skip
      refine lv_aload_n hx hb dX3_weigh_40 rfl (lv_at hl 0 rfl) ?_
      refine va_get (D := G.1) (ci := 3) (v := .ref (b 1)) (C := RX3) (T := TX3) (N := 7) hx hb hts i_X3_weigh_X3 hown hK.1 hP 0 rfl rfl 1 (by decide) f9 (fun _ h9 => h9) rfl dX3_weigh_41 ?_
      refine lv_aload_n hx hb dX3_weigh_44 rfl (lv_at hl 0 rfl) ?_
      refine va_get (D := G.1) (ci := 3) (v := .int s.tokAt) (C := RX3) (T := TX3) (N := 7) hx hb hts i_X3_weigh_X3 hown hK.1 hP 0 rfl rfl 3 (by decide) f41 (fun _ h9 => h9) rfl dX3_weigh_45 ?_
      refine g_top (y := nI q) (hq) ?_
      refine g_iald hx hb hK.1 hP 1 0 rfl rfl (i := q) (by omega) (by decide) dX3_weigh_48 ?_
      refine va_put (D := G.1) (ci := 3) (v := .int (s.bytes q)) (ty := .int) (C := RX3) (T := TX3) (N := 7) hx hb hts i_X3_weigh_X3 tyX3 tyX3_ok nmX3 hown hK.1 hP hD hS 0 rfl rfl 5 (by decide) f44 (fun _ h9 => h9) rfl (by decide +kernel) rfl rfl (Nat.le_of_ble_eq_true rfl) dX3_weigh_49 (fun H locs hP hD hS => ?_)
      have hP : va_P G.1 vwCl (wSc b G.2.1 (s.size, s.bytes, s.next, s.tokAt, s.tok, s.bytes q, s.told)) H := hP
      have hD : va_D A (wSc b G.2.1 (s.size, s.bytes, s.next, s.tokAt, s.tok, s.bytes q, s.told)) := hD
      refine lv_goto (tgt := 156) hx hb dX3_weigh_52 (by decide) ?_
      have hP : va_P G.1 vwCl (wSc b G.2.1 (s.size, s.bytes, s.next, s.tokAt, wgT s.bytes q s.tok (nI L), wgV s.bytes q s.tok (nI L) s.val, s.told)) H := by
        rw [wgT, wgV]
        (first | rw [if_pos c_1, if_pos c_1] | rw [if_neg c_1, if_neg c_1] | rw [if_pos c_1] | rw [if_neg c_1])
        (first | rw [if_pos c_13, if_pos c_13] | rw [if_neg c_13, if_neg c_13] | rw [if_pos c_13] | rw [if_neg c_13])
        exact hP
      exact g_wv hx hb hr hlocks hAe hP hS dX3_weigh_156
    · skip
      refine lv_aload_n hx hb dX3_weigh_25 rfl (lv_at hl 0 rfl) ?_
      refine va_get (D := G.1) (ci := 3) (v := .ref (b 1)) (C := RX3) (T := TX3) (N := 7) hx hb hts i_X3_weigh_X3 hown hK.1 hP 0 rfl rfl 1 (by decide) f9 (fun _ h9 => h9) rfl dX3_weigh_26 ?_
      refine lv_aload_n hx hb dX3_weigh_29 rfl (lv_at hl 0 rfl) ?_
      refine va_get (D := G.1) (ci := 3) (v := .int s.tokAt) (C := RX3) (T := TX3) (N := 7) hx hb hts i_X3_weigh_X3 hown hK.1 hP 0 rfl rfl 3 (by decide) f41 (fun _ h9 => h9) rfl dX3_weigh_30 ?_
      refine g_top (y := nI q) (hq) ?_
      refine g_iald hx hb hK.1 hP 1 0 rfl rfl (i := q) (by omega) (by decide) dX3_weigh_33 ?_
      refine lv_bipush (v := 48) hx hb dX3_weigh_34 (by decide) ?_
      refine lv_isub hx hb dX3_weigh_36 ?_
      refine lv_goto (tgt := 49) hx hb dX3_weigh_37 (by decide) ?_
      refine va_put (D := G.1) (ci := 3) (v := .int ((s.bytes q) - 48)) (ty := .int) (C := RX3) (T := TX3) (N := 7) hx hb hts i_X3_weigh_X3 tyX3 tyX3_ok nmX3 hown hK.1 hP hD hS 0 rfl rfl 5 (by decide) f44 (fun _ h9 => h9) rfl (by decide +kernel) rfl rfl (Nat.le_of_ble_eq_true rfl) dX3_weigh_49 (fun H locs hP hD hS => ?_)
      have hP : va_P G.1 vwCl (wSc b G.2.1 (s.size, s.bytes, s.next, s.tokAt, s.tok, (s.bytes q) - 48, s.told)) H := hP
      have hD : va_D A (wSc b G.2.1 (s.size, s.bytes, s.next, s.tokAt, s.tok, (s.bytes q) - 48, s.told)) := hD
      refine lv_goto (tgt := 156) hx hb dX3_weigh_52 (by decide) ?_
      have hP : va_P G.1 vwCl (wSc b G.2.1 (s.size, s.bytes, s.next, s.tokAt, wgT s.bytes q s.tok (nI L), wgV s.bytes q s.tok (nI L) s.val, s.told)) H := by
        rw [wgT, wgV]
        (first | rw [if_pos c_1, if_pos c_1] | rw [if_neg c_1, if_neg c_1] | rw [if_pos c_1] | rw [if_neg c_1])
        (first | rw [if_pos c_13, if_pos c_13] | rw [if_neg c_13, if_neg c_13] | rw [if_pos c_13] | rw [if_neg c_13])
        exact hP
      exact g_wv hx hb hr hlocks hAe hP hS dX3_weigh_156

theorem i_X3_step_X3 : ∀ w ∈ wsX30, w ∈ wsX3_step := by decide +kernel
theorem h_X3_step : yX3_step.cls = RX3 ∧ yX3_step.cls ≠ "java/lang/invoke/MethodHandle" ∧ yX3_step.cls ≠ "java/lang/invoke/VarHandle" ∧ (parseMethodDescriptor yX3_step.desc).map (fun d => d.parameters.length) = some 0 := by decide +kernel
set_option maxHeartbeats 4000000 in
set_option maxRecDepth 100000 in
theorem c_X3_step (lz : Launch) (G : gG) (b : Nat → Nat) (s : ScS) (hs : scOK s) : gWr lz yX3_step wsX3_step 1 G [.ref (b 0)] (wSc b G.2.1 s) (wSc b G.2.1 (scStep s)) none := by
  refine g_wr (by decide) rfl (Nat.le_of_ble_eq_true rfl) ?_
  intro pz ez sz mz bz tz cz hx hb hr hml hown hts hlocks hK A hAe hP hD hS ls hl
  have hl : lv_has ls 1 [(0, .ref (b 0))] := hl
  have f15 := hts (.fieldLink RX3 15 "WhisperRing$Script" "size" "I") (by decide +kernel)
  have f28 := hts (.fieldLink RX3 28 "WhisperRing$Script" "next" "I") (by decide +kernel)
  have f34 := hts (.fieldLink RX3 34 "WhisperRing$Script" "token" "I") (by decide +kernel)
  have f41 := hts (.fieldLink RX3 41 "WhisperRing$Script" "tokenAt" "I") (by decide +kernel)
  have f44 := hts (.fieldLink RX3 44 "WhisperRing$Script" "value" "I") (by decide +kernel)
  have f9 := hts (.fieldLink RX3 9 "WhisperRing$Script" "bytes" "[I") (by decide +kernel)
  obtain ⟨Z, x0, hZ, hx0Z, hz, hx0⟩ := hs
  have hP : va_P G.1 vwCl (wSc b G.2.1 (s.size, s.bytes, nI x0, s.tokAt, s.tok, s.val, s.told)) sz.heap := by
    rw [← hx0]
    exact hP
  have hD : va_D A (wSc b G.2.1 (s.size, s.bytes, nI x0, s.tokAt, s.tok, s.val, s.told)) := by
    rw [← hx0]
    exact hD
  have lp_0 : ∀ (fu_0 : Nat) (x : Nat), (x ≤ Z) → (stQ s.bytes Z x0 = skp s.bytes Z (Z - x) x) → Z - x < fu_0 → ∀ (H : Heap) (locs : List Loc), va_P G.1 vwCl (wSc b G.2.1 (s.size, s.bytes, nI x, s.tokAt, s.tok, s.val, s.told)) H → va_D A (wSc b G.2.1 (s.size, s.bytes, nI x, s.tokAt, s.tok, s.val, s.told)) → va_S A sz.heap H locs → ∀ ls : Array Slot, lv_has ls 1 [(0, .ref (b 0))] → W pz lz ez (gRm 1) sz mz ([.ref (b 0)] : List Value).toArray bz tz cz H locs 0 0 (MQ bz (gQ G (wSc b G.2.1 s) (wSc b G.2.1 (scStep s)) none) ([.ref (b 0)] : List Value).toArray sz 0 0 (gAd (wSc b G.2.1 s))) (F0 mz 0 ls []) := by
    intro fu_0
    induction fu_0 with
    | zero =>
      intro x hxZ hsk hf_0
      exact absurd hf_0 (Nat.not_lt_zero _)
    | succ fu_0 ih_0 =>
      intro x hxZ hsk hf_0 H locs hP hD hS ls hl
      refine lv_aload_n hx hb dX3_step_0 rfl (lv_at hl 0 rfl) ?_
      refine va_get (D := G.1) (ci := 3) (v := .int (nI x)) (C := RX3) (T := TX3) (N := 7) hx hb hts i_X3_step_X3 hown hK.1 hP 0 rfl rfl 2 (by decide) f28 (fun _ h9 => h9) rfl dX3_step_1 ?_
      refine lv_aload_n hx hb dX3_step_4 rfl (lv_at hl 0 rfl) ?_
      refine va_get (D := G.1) (ci := 3) (v := .int s.size) (C := RX3) (T := TX3) (N := 7) hx hb hts i_X3_step_X3 hown hK.1 hP 0 rfl rfl 0 (by decide) f15 (fun _ h9 => h9) rfl dX3_step_5 ?_
      refine lv_icmp_ge (tgt := 38) hx hb dX3_step_8 (by decide) (fun c_1 => ?_) (fun c_1 => ?_)
      · skip
        have c_1 := gl_le c_1
        have hge : Z ≤ x := gl_ex hz (by omega) (by omega) c_1
        refine lv_aload_n hx hb dX3_step_38 rfl (lv_at hl 0 rfl) ?_
        refine lv_aload_n hx hb dX3_step_39 rfl (lv_at hl 0 rfl) ?_
        refine va_get (D := G.1) (ci := 3) (v := .int (nI x)) (C := RX3) (T := TX3) (N := 7) hx hb hts i_X3_step_X3 hown hK.1 hP 0 rfl rfl 2 (by decide) f28 (fun _ h9 => h9) rfl dX3_step_40 ?_
        refine va_put (D := G.1) (ci := 3) (v := .int (nI x)) (ty := .int) (C := RX3) (T := TX3) (N := 7) hx hb hts i_X3_step_X3 tyX3 tyX3_ok nmX3 hown hK.1 hP hD hS 0 rfl rfl 3 (by decide) f41 (fun _ h9 => h9) rfl (by decide +kernel) rfl rfl (Nat.le_of_ble_eq_true rfl) dX3_step_43 (fun H locs hP hD hS => ?_)
        have hP : va_P G.1 vwCl (wSc b G.2.1 (s.size, s.bytes, nI x, nI x, s.tok, s.val, s.told)) H := hP
        have hD : va_D A (wSc b G.2.1 (s.size, s.bytes, nI x, nI x, s.tok, s.val, s.told)) := hD
        refine lv_aload_n hx hb dX3_step_46 rfl (lv_at hl 0 rfl) ?_
        refine lv_aload_n hx hb dX3_step_47 rfl (lv_at hl 0 rfl) ?_
        refine va_get (D := G.1) (ci := 3) (v := .int (nI x)) (C := RX3) (T := TX3) (N := 7) hx hb hts i_X3_step_X3 hown hK.1 hP 0 rfl rfl 2 (by decide) f28 (fun _ h9 => h9) rfl dX3_step_48 ?_
        refine lv_aload_n hx hb dX3_step_51 rfl (lv_at hl 0 rfl) ?_
        refine va_get (D := G.1) (ci := 3) (v := .int s.size) (C := RX3) (T := TX3) (N := 7) hx hb hts i_X3_step_X3 hown hK.1 hP 0 rfl rfl 0 (by decide) f15 (fun _ h9 => h9) rfl dX3_step_52 ?_
        refine lv_icmp_ge (tgt := 73) hx hb dX3_step_55 (by decide) (fun c_2 => ?_) (fun c_2 => absurd (gl_nle c_2) (by rw [hz]; exact nI_nlt hge (by omega)))
        have c_2 := gl_le c_2
        refine lv_iconst (v := 0) hx hb dX3_step_73 (by decide) ?_
        refine va_put (D := G.1) (ci := 3) (v := .int 0) (ty := .int) (C := RX3) (T := TX3) (N := 7) hx hb hts i_X3_step_X3 tyX3 tyX3_ok nmX3 hown hK.1 hP hD hS 0 rfl rfl 4 (by decide) f34 (fun _ h9 => h9) rfl (by decide +kernel) rfl rfl (Nat.le_of_ble_eq_true rfl) dX3_step_74 (fun H locs hP hD hS => ?_)
        have hP : va_P G.1 vwCl (wSc b G.2.1 (s.size, s.bytes, nI x, nI x, 0, s.val, s.told)) H := hP
        have hD : va_D A (wSc b G.2.1 (s.size, s.bytes, nI x, nI x, 0, s.val, s.told)) := hD
        refine lv_aload_n hx hb dX3_step_77 rfl (lv_at hl 0 rfl) ?_
        refine lv_iconst (v := 0) hx hb dX3_step_78 (by decide) ?_
        refine va_put (D := G.1) (ci := 3) (v := .int 0) (ty := .int) (C := RX3) (T := TX3) (N := 7) hx hb hts i_X3_step_X3 tyX3 tyX3_ok nmX3 hown hK.1 hP hD hS 0 rfl rfl 5 (by decide) f44 (fun _ h9 => h9) rfl (by decide +kernel) rfl rfl (Nat.le_of_ble_eq_true rfl) dX3_step_79 (fun H locs hP hD hS => ?_)
        have hP : va_P G.1 vwCl (wSc b G.2.1 (s.size, s.bytes, nI x, nI x, 0, 0, s.told)) H := hP
        have hD : va_D A (wSc b G.2.1 (s.size, s.bytes, nI x, nI x, 0, 0, s.told)) := hD
        refine lv_aload_n hx hb dX3_step_82 rfl (lv_at hl 0 rfl) ?_
        refine va_get (D := G.1) (ci := 3) (v := .int 0) (C := RX3) (T := TX3) (N := 7) hx hb hts i_X3_step_X3 hown hK.1 hP 0 rfl rfl 4 (by decide) f34 (fun _ h9 => h9) rfl dX3_step_83 ?_
        refine lv_iconst (v := 1) hx hb dX3_step_86 (by decide) ?_
        refine lv_icmp_eq (tgt := 98) hx hb dX3_step_87 (by decide) (fun c_3 => False.elim (by revert c_3; decide)) (fun c_3 => ?_)
        refine lv_aload_n hx hb dX3_step_90 rfl (lv_at hl 0 rfl) ?_
        refine va_get (D := G.1) (ci := 3) (v := .int 0) (C := RX3) (T := TX3) (N := 7) hx hb hts i_X3_step_X3 hown hK.1 hP 0 rfl rfl 4 (by decide) f34 (fun _ h9 => h9) rfl dX3_step_91 ?_
        refine lv_iconst (v := 2) hx hb dX3_step_94 (by decide) ?_
        refine lv_icmp_ne (tgt := 157) hx hb dX3_step_95 (by decide) (fun c_4 => ?_) (fun c_4 => False.elim (by revert c_4; decide))
        refine lv_aload_n hx hb dX3_step_157 rfl (lv_at hl 0 rfl) ?_
        refine va_get (D := G.1) (ci := 3) (v := .int 0) (C := RX3) (T := TX3) (N := 7) hx hb hts i_X3_step_X3 hown hK.1 hP 0 rfl rfl 4 (by decide) f34 (fun _ h9 => h9) rfl dX3_step_158 ?_
        refine lv_if_eq (tgt := 174) hx hb dX3_step_161 (by decide) (fun c_5 => ?_) (fun c_5 => False.elim (by revert c_5; decide))
        have hP : va_P G.1 vwCl (wSc b G.2.1 (scStep s)) H := by
          rw [scStep_eq hz hZ hx0 hx0Z]
          rw [hsk.trans (skp_e hge), stT, stV, stE, if_neg (Nat.not_lt.mpr hge), if_neg (Nat.not_lt.mpr hge), if_neg (Nat.not_lt.mpr hge)]
          exact hP
        exact g_wv hx hb hr hlocks hAe hP hS dX3_step_174
      · skip
        have c_1 := gl_nle c_1
        have hlt : x < Z := gl_in hz (by omega) (by omega) c_1
        refine lv_aload_n hx hb dX3_step_11 rfl (lv_at hl 0 rfl) ?_
        refine va_get (D := G.1) (ci := 3) (v := .ref (b 1)) (C := RX3) (T := TX3) (N := 7) hx hb hts i_X3_step_X3 hown hK.1 hP 0 rfl rfl 1 (by decide) f9 (fun _ h9 => h9) rfl dX3_step_12 ?_
        refine lv_aload_n hx hb dX3_step_15 rfl (lv_at hl 0 rfl) ?_
        refine va_get (D := G.1) (ci := 3) (v := .int (nI x)) (C := RX3) (T := TX3) (N := 7) hx hb hts i_X3_step_X3 hown hK.1 hP 0 rfl rfl 2 (by decide) f28 (fun _ h9 => h9) rfl dX3_step_16 ?_
        refine g_iald hx hb hK.1 hP 1 0 rfl rfl (i := x) (by omega) (by decide) dX3_step_19 ?_
        refine lv_bipush (v := 32) hx hb dX3_step_20 (by decide) ?_
        refine lv_icmp_ne (tgt := 38) hx hb dX3_step_22 (by decide) (fun c_6 => ?_) (fun c_6 => ?_)
        · skip
          refine lv_aload_n hx hb dX3_step_38 rfl (lv_at hl 0 rfl) ?_
          refine lv_aload_n hx hb dX3_step_39 rfl (lv_at hl 0 rfl) ?_
          refine va_get (D := G.1) (ci := 3) (v := .int (nI x)) (C := RX3) (T := TX3) (N := 7) hx hb hts i_X3_step_X3 hown hK.1 hP 0 rfl rfl 2 (by decide) f28 (fun _ h9 => h9) rfl dX3_step_40 ?_
          refine va_put (D := G.1) (ci := 3) (v := .int (nI x)) (ty := .int) (C := RX3) (T := TX3) (N := 7) hx hb hts i_X3_step_X3 tyX3 tyX3_ok nmX3 hown hK.1 hP hD hS 0 rfl rfl 3 (by decide) f41 (fun _ h9 => h9) rfl (by decide +kernel) rfl rfl (Nat.le_of_ble_eq_true rfl) dX3_step_43 (fun H locs hP hD hS => ?_)
          have hP : va_P G.1 vwCl (wSc b G.2.1 (s.size, s.bytes, nI x, nI x, s.tok, s.val, s.told)) H := hP
          have hD : va_D A (wSc b G.2.1 (s.size, s.bytes, nI x, nI x, s.tok, s.val, s.told)) := hD
          refine lv_aload_n hx hb dX3_step_46 rfl (lv_at hl 0 rfl) ?_
          refine lv_aload_n hx hb dX3_step_47 rfl (lv_at hl 0 rfl) ?_
          refine va_get (D := G.1) (ci := 3) (v := .int (nI x)) (C := RX3) (T := TX3) (N := 7) hx hb hts i_X3_step_X3 hown hK.1 hP 0 rfl rfl 2 (by decide) f28 (fun _ h9 => h9) rfl dX3_step_48 ?_
          refine lv_aload_n hx hb dX3_step_51 rfl (lv_at hl 0 rfl) ?_
          refine va_get (D := G.1) (ci := 3) (v := .int s.size) (C := RX3) (T := TX3) (N := 7) hx hb hts i_X3_step_X3 hown hK.1 hP 0 rfl rfl 0 (by decide) f15 (fun _ h9 => h9) rfl dX3_step_52 ?_
          refine lv_icmp_ge (tgt := 73) hx hb dX3_step_55 (by decide) (fun c_7 => absurd c_7 (by rw [hz]; exact nI_ge hlt (by omega))) (fun c_7 => ?_)
          have c_7 := gl_nle c_7
          refine lv_aload_n hx hb dX3_step_58 rfl (lv_at hl 0 rfl) ?_
          refine va_get (D := G.1) (ci := 3) (v := .ref (b 1)) (C := RX3) (T := TX3) (N := 7) hx hb hts i_X3_step_X3 hown hK.1 hP 0 rfl rfl 1 (by decide) f9 (fun _ h9 => h9) rfl dX3_step_59 ?_
          refine lv_aload_n hx hb dX3_step_62 rfl (lv_at hl 0 rfl) ?_
          refine va_get (D := G.1) (ci := 3) (v := .int (nI x)) (C := RX3) (T := TX3) (N := 7) hx hb hts i_X3_step_X3 hown hK.1 hP 0 rfl rfl 2 (by decide) f28 (fun _ h9 => h9) rfl dX3_step_63 ?_
          refine g_iald hx hb hK.1 hP 1 0 rfl rfl (i := x) (by omega) (by decide) dX3_step_66 ?_
          refine g_rdS (As := [.int (s.bytes x)]) (rest := [.ref (b 0)]) (nL := 1) hx hb hml hown hts (c_X3_tokenOf lz G (s.bytes x)) gX3_step_X3_tokenOf rfl h_X3_tokenOf ⟨Nat.le_of_ble_eq_true rfl, Nat.le_of_ble_eq_true rfl⟩ hK gP_nil rfl hl.1 rfl (Nat.le_of_ble_eq_true rfl) ⟨Nat.le_refl _, Nat.le_refl _⟩ dX3_step_67 ?_
          refine lv_goto (tgt := 74) hx hb dX3_step_70 (by decide) ?_
          refine va_put (D := G.1) (ci := 3) (v := .int (tkOf (s.bytes x))) (ty := .int) (C := RX3) (T := TX3) (N := 7) hx hb hts i_X3_step_X3 tyX3 tyX3_ok nmX3 hown hK.1 hP hD hS 0 rfl rfl 4 (by decide) f34 (fun _ h9 => h9) rfl (by decide +kernel) rfl rfl (Nat.le_of_ble_eq_true rfl) dX3_step_74 (fun H locs hP hD hS => ?_)
          have hP : va_P G.1 vwCl (wSc b G.2.1 (s.size, s.bytes, nI x, nI x, tkOf (s.bytes x), s.val, s.told)) H := hP
          have hD : va_D A (wSc b G.2.1 (s.size, s.bytes, nI x, nI x, tkOf (s.bytes x), s.val, s.told)) := hD
          refine lv_aload_n hx hb dX3_step_77 rfl (lv_at hl 0 rfl) ?_
          refine lv_iconst (v := 0) hx hb dX3_step_78 (by decide) ?_
          refine va_put (D := G.1) (ci := 3) (v := .int 0) (ty := .int) (C := RX3) (T := TX3) (N := 7) hx hb hts i_X3_step_X3 tyX3 tyX3_ok nmX3 hown hK.1 hP hD hS 0 rfl rfl 5 (by decide) f44 (fun _ h9 => h9) rfl (by decide +kernel) rfl rfl (Nat.le_of_ble_eq_true rfl) dX3_step_79 (fun H locs hP hD hS => ?_)
          have hP : va_P G.1 vwCl (wSc b G.2.1 (s.size, s.bytes, nI x, nI x, tkOf (s.bytes x), 0, s.told)) H := hP
          have hD : va_D A (wSc b G.2.1 (s.size, s.bytes, nI x, nI x, tkOf (s.bytes x), 0, s.told)) := hD
          refine lv_aload_n hx hb dX3_step_82 rfl (lv_at hl 0 rfl) ?_
          refine va_get (D := G.1) (ci := 3) (v := .int (tkOf (s.bytes x))) (C := RX3) (T := TX3) (N := 7) hx hb hts i_X3_step_X3 hown hK.1 hP 0 rfl rfl 4 (by decide) f34 (fun _ h9 => h9) rfl dX3_step_83 ?_
          refine lv_iconst (v := 1) hx hb dX3_step_86 (by decide) ?_
          refine lv_icmp_eq (tgt := 98) hx hb dX3_step_87 (by decide) (fun c_8 => ?_) (fun c_8 => ?_)
          · skip
            have lp_98 : ∀ (fu_98 : Nat) (y : Nat), (x ≤ y) → (y ≤ Z) → (runT s.bytes Z (tkOf (s.bytes x)) (Z - x) x = runT s.bytes Z (tkOf (s.bytes x)) (Z - y) y) → Z - y < fu_98 → ∀ (H : Heap) (locs : List Loc), va_P G.1 vwCl (wSc b G.2.1 (s.size, s.bytes, nI y, nI x, tkOf (s.bytes x), 0, s.told)) H → va_D A (wSc b G.2.1 (s.size, s.bytes, nI y, nI x, tkOf (s.bytes x), 0, s.told)) → va_S A sz.heap H locs → ∀ ls : Array Slot, lv_has ls 1 [(0, .ref (b 0))] → W pz lz ez (gRm 1) sz mz ([.ref (b 0)] : List Value).toArray bz tz cz H locs 0 0 (MQ bz (gQ G (wSc b G.2.1 s) (wSc b G.2.1 (scStep s)) none) ([.ref (b 0)] : List Value).toArray sz 0 0 (gAd (wSc b G.2.1 s))) (F0 mz 98 ls []) := by
              intro fu_98
              induction fu_98 with
              | zero =>
                intro y hxy hyZ hru hf_98
                exact absurd hf_98 (Nat.not_lt_zero _)
              | succ fu_98 ih_98 =>
                intro y hxy hyZ hru hf_98 H locs hP hD hS ls hl
                refine lv_aload_n hx hb dX3_step_98 rfl (lv_at hl 0 rfl) ?_
                refine va_get (D := G.1) (ci := 3) (v := .int (nI y)) (C := RX3) (T := TX3) (N := 7) hx hb hts i_X3_step_X3 hown hK.1 hP 0 rfl rfl 2 (by decide) f28 (fun _ h9 => h9) rfl dX3_step_99 ?_
                refine lv_aload_n hx hb dX3_step_102 rfl (lv_at hl 0 rfl) ?_
                refine va_get (D := G.1) (ci := 3) (v := .int s.size) (C := RX3) (T := TX3) (N := 7) hx hb hts i_X3_step_X3 hown hK.1 hP 0 rfl rfl 0 (by decide) f15 (fun _ h9 => h9) rfl dX3_step_103 ?_
                refine lv_icmp_ge (tgt := 141) hx hb dX3_step_106 (by decide) (fun c_9 => ?_) (fun c_9 => ?_)
                · skip
                  have c_9 := gl_le c_9
                  have hge2 : Z ≤ y := gl_ex hz (by omega) (by omega) c_9
                  refine lv_aload_n hx hb dX3_step_141 rfl (lv_at hl 0 rfl) ?_
                  refine lv_aload_n hx hb dX3_step_142 rfl (lv_at hl 0 rfl) ?_
                  refine va_get (D := G.1) (ci := 3) (v := .int (nI y)) (C := RX3) (T := TX3) (N := 7) hx hb hts i_X3_step_X3 hown hK.1 hP 0 rfl rfl 2 (by decide) f28 (fun _ h9 => h9) rfl dX3_step_143 ?_
                  refine lv_aload_n hx hb dX3_step_146 rfl (lv_at hl 0 rfl) ?_
                  refine va_get (D := G.1) (ci := 3) (v := .int (nI x)) (C := RX3) (T := TX3) (N := 7) hx hb hts i_X3_step_X3 hown hK.1 hP 0 rfl rfl 3 (by decide) f41 (fun _ h9 => h9) rfl dX3_step_147 ?_
                  refine lv_isub hx hb dX3_step_150 ?_
                  refine g_top (y := nI (y - x)) (pk_sub hxy) ?_
                  refine g_wrV (As := [.int (nI (y - x))]) (rest := []) (nL := 1) hx hb hml hown hts (c_X3_weigh lz G b (s.size, s.bytes, nI y, nI x, tkOf (s.bytes x), 0, s.told) Z x (y - x) hz hZ rfl hlt (by omega)) gX3_step_X3_weigh rfl h_X3_weigh ⟨Nat.le_of_ble_eq_true rfl, Nat.le_of_ble_eq_true rfl⟩ hK hP hD hS [0, 1] rfl rfl rfl (ws1 := wSc b G.2.1 (s.size, s.bytes, nI y, nI x, wgT s.bytes x (tkOf (s.bytes x)) (nI (y - x)), wgV s.bytes x (tkOf (s.bytes x)) (nI (y - x)) 0, s.told)) rfl [b 0, b 1] rfl rfl (ci := 3) rfl rfl rfl rfl hl.1 rfl (Nat.le_of_ble_eq_true rfl) ⟨Nat.le_refl _, Nat.le_refl _⟩ dX3_step_151 (fun H locs hP hD hS => ?_)
                  refine lv_goto (tgt := 174) hx hb dX3_step_154 (by decide) ?_
                  have hP : va_P G.1 vwCl (wSc b G.2.1 (scStep s)) H := by
                    rw [scStep_eq hz hZ hx0 hx0Z]
                    rw [hsk.trans (skp_n hlt c_6), stT, stV, if_pos hlt, if_pos hlt]
                    rw [if_pos c_8, if_pos c_8]
                    rw [stE, if_pos hlt, if_pos c_8, hru.trans (runT_e hge2)]
                    exact hP
                  exact g_wv hx hb hr hlocks hAe hP hS dX3_step_174
                · skip
                  have c_9 := gl_nle c_9
                  have hlt2 : y < Z := gl_in hz (by omega) (by omega) c_9
                  refine lv_aload_n hx hb dX3_step_109 rfl (lv_at hl 0 rfl) ?_
                  refine va_get (D := G.1) (ci := 3) (v := .ref (b 1)) (C := RX3) (T := TX3) (N := 7) hx hb hts i_X3_step_X3 hown hK.1 hP 0 rfl rfl 1 (by decide) f9 (fun _ h9 => h9) rfl dX3_step_110 ?_
                  refine lv_aload_n hx hb dX3_step_113 rfl (lv_at hl 0 rfl) ?_
                  refine va_get (D := G.1) (ci := 3) (v := .int (nI y)) (C := RX3) (T := TX3) (N := 7) hx hb hts i_X3_step_X3 hown hK.1 hP 0 rfl rfl 2 (by decide) f28 (fun _ h9 => h9) rfl dX3_step_114 ?_
                  refine g_iald hx hb hK.1 hP 1 0 rfl rfl (i := y) (by omega) (by decide) dX3_step_117 ?_
                  refine g_rdS (As := [.int (s.bytes y)]) (rest := []) (nL := 1) hx hb hml hown hts (c_X3_tokenOf lz G (s.bytes y)) gX3_step_X3_tokenOf rfl h_X3_tokenOf ⟨Nat.le_of_ble_eq_true rfl, Nat.le_of_ble_eq_true rfl⟩ hK gP_nil rfl hl.1 rfl (Nat.le_of_ble_eq_true rfl) ⟨Nat.le_refl _, Nat.le_refl _⟩ dX3_step_118 ?_
                  refine lv_aload_n hx hb dX3_step_121 rfl (lv_at hl 0 rfl) ?_
                  refine va_get (D := G.1) (ci := 3) (v := .int (tkOf (s.bytes x))) (C := RX3) (T := TX3) (N := 7) hx hb hts i_X3_step_X3 hown hK.1 hP 0 rfl rfl 4 (by decide) f34 (fun _ h9 => h9) rfl dX3_step_122 ?_
                  refine lv_icmp_ne (tgt := 141) hx hb dX3_step_125 (by decide) (fun c_10 => ?_) (fun c_10 => ?_)
                  · skip
                    refine lv_aload_n hx hb dX3_step_141 rfl (lv_at hl 0 rfl) ?_
                    refine lv_aload_n hx hb dX3_step_142 rfl (lv_at hl 0 rfl) ?_
                    refine va_get (D := G.1) (ci := 3) (v := .int (nI y)) (C := RX3) (T := TX3) (N := 7) hx hb hts i_X3_step_X3 hown hK.1 hP 0 rfl rfl 2 (by decide) f28 (fun _ h9 => h9) rfl dX3_step_143 ?_
                    refine lv_aload_n hx hb dX3_step_146 rfl (lv_at hl 0 rfl) ?_
                    refine va_get (D := G.1) (ci := 3) (v := .int (nI x)) (C := RX3) (T := TX3) (N := 7) hx hb hts i_X3_step_X3 hown hK.1 hP 0 rfl rfl 3 (by decide) f41 (fun _ h9 => h9) rfl dX3_step_147 ?_
                    refine lv_isub hx hb dX3_step_150 ?_
                    refine g_top (y := nI (y - x)) (pk_sub hxy) ?_
                    refine g_wrV (As := [.int (nI (y - x))]) (rest := []) (nL := 1) hx hb hml hown hts (c_X3_weigh lz G b (s.size, s.bytes, nI y, nI x, tkOf (s.bytes x), 0, s.told) Z x (y - x) hz hZ rfl hlt (by omega)) gX3_step_X3_weigh rfl h_X3_weigh ⟨Nat.le_of_ble_eq_true rfl, Nat.le_of_ble_eq_true rfl⟩ hK hP hD hS [0, 1] rfl rfl rfl (ws1 := wSc b G.2.1 (s.size, s.bytes, nI y, nI x, wgT s.bytes x (tkOf (s.bytes x)) (nI (y - x)), wgV s.bytes x (tkOf (s.bytes x)) (nI (y - x)) 0, s.told)) rfl [b 0, b 1] rfl rfl (ci := 3) rfl rfl rfl rfl hl.1 rfl (Nat.le_of_ble_eq_true rfl) ⟨Nat.le_refl _, Nat.le_refl _⟩ dX3_step_151 (fun H locs hP hD hS => ?_)
                    refine lv_goto (tgt := 174) hx hb dX3_step_154 (by decide) ?_
                    have hP : va_P G.1 vwCl (wSc b G.2.1 (scStep s)) H := by
                      rw [scStep_eq hz hZ hx0 hx0Z]
                      rw [hsk.trans (skp_n hlt c_6), stT, stV, if_pos hlt, if_pos hlt]
                      rw [if_pos c_8, if_pos c_8]
                      rw [stE, if_pos hlt, if_pos c_8, hru.trans (runT_n hlt2 c_10)]
                      exact hP
                    exact g_wv hx hb hr hlocks hAe hP hS dX3_step_174
                  · skip
                    refine lv_aload_n hx hb dX3_step_128 rfl (lv_at hl 0 rfl) ?_
                    refine lv_dup hx hb dX3_step_129 rfl ?_
                    refine va_get (D := G.1) (ci := 3) (v := .int (nI y)) (C := RX3) (T := TX3) (N := 7) hx hb hts i_X3_step_X3 hown hK.1 hP 0 rfl rfl 2 (by decide) f28 (fun _ h9 => h9) rfl dX3_step_130 ?_
                    refine lv_iconst (v := 1) hx hb dX3_step_133 (by decide) ?_
                    refine lv_iadd hx hb dX3_step_134 ?_
                    refine g_top (y := nI (y + 1)) (nI_1 y) ?_
                    refine va_put (D := G.1) (ci := 3) (v := .int (nI (y + 1))) (ty := .int) (C := RX3) (T := TX3) (N := 7) hx hb hts i_X3_step_X3 tyX3 tyX3_ok nmX3 hown hK.1 hP hD hS 0 rfl rfl 2 (by decide) f28 (fun _ h9 => h9) rfl (by decide +kernel) rfl rfl (Nat.le_of_ble_eq_true rfl) dX3_step_135 (fun H locs hP hD hS => ?_)
                    have hP : va_P G.1 vwCl (wSc b G.2.1 (s.size, s.bytes, nI (y + 1), nI x, tkOf (s.bytes x), 0, s.told)) H := hP
                    have hD : va_D A (wSc b G.2.1 (s.size, s.bytes, nI (y + 1), nI x, tkOf (s.bytes x), 0, s.told)) := hD
                    refine lv_goto (tgt := 98) hx hb dX3_step_138 (by decide) ?_
                    exact ih_98 (y + 1) (by omega) hlt2 (hru.trans (runT_y hlt2 c_10)) (by omega) _ _ hP hD hS ls (lv_sub hl [0] rfl)
            exact lp_98 ((Z - x) + 1) x (Nat.le_refl _) hxZ rfl (Nat.lt_succ_self _) _ _ hP hD hS ls (lv_sub hl [0] rfl)
          · skip
            refine lv_aload_n hx hb dX3_step_90 rfl (lv_at hl 0 rfl) ?_
            refine va_get (D := G.1) (ci := 3) (v := .int (tkOf (s.bytes x))) (C := RX3) (T := TX3) (N := 7) hx hb hts i_X3_step_X3 hown hK.1 hP 0 rfl rfl 4 (by decide) f34 (fun _ h9 => h9) rfl dX3_step_91 ?_
            refine lv_iconst (v := 2) hx hb dX3_step_94 (by decide) ?_
            refine lv_icmp_ne (tgt := 157) hx hb dX3_step_95 (by decide) (fun c_11 => ?_) (fun c_11 => ?_)
            · skip
              refine lv_aload_n hx hb dX3_step_157 rfl (lv_at hl 0 rfl) ?_
              refine va_get (D := G.1) (ci := 3) (v := .int (tkOf (s.bytes x))) (C := RX3) (T := TX3) (N := 7) hx hb hts i_X3_step_X3 hown hK.1 hP 0 rfl rfl 4 (by decide) f34 (fun _ h9 => h9) rfl dX3_step_158 ?_
              refine lv_if_eq (tgt := 174) hx hb dX3_step_161 (by decide) (fun c_12 => absurd c_12 (tkOf_0 _)) (fun c_12 => ?_)
              refine lv_aload_n hx hb dX3_step_164 rfl (lv_at hl 0 rfl) ?_
              refine lv_dup hx hb dX3_step_165 rfl ?_
              refine va_get (D := G.1) (ci := 3) (v := .int (nI x)) (C := RX3) (T := TX3) (N := 7) hx hb hts i_X3_step_X3 hown hK.1 hP 0 rfl rfl 2 (by decide) f28 (fun _ h9 => h9) rfl dX3_step_166 ?_
              refine lv_iconst (v := 1) hx hb dX3_step_169 (by decide) ?_
              refine lv_iadd hx hb dX3_step_170 ?_
              refine g_top (y := nI (x + 1)) (nI_1 x) ?_
              refine va_put (D := G.1) (ci := 3) (v := .int (nI (x + 1))) (ty := .int) (C := RX3) (T := TX3) (N := 7) hx hb hts i_X3_step_X3 tyX3 tyX3_ok nmX3 hown hK.1 hP hD hS 0 rfl rfl 2 (by decide) f28 (fun _ h9 => h9) rfl (by decide +kernel) rfl rfl (Nat.le_of_ble_eq_true rfl) dX3_step_171 (fun H locs hP hD hS => ?_)
              have hP : va_P G.1 vwCl (wSc b G.2.1 (s.size, s.bytes, nI (x + 1), nI x, tkOf (s.bytes x), 0, s.told)) H := hP
              have hD : va_D A (wSc b G.2.1 (s.size, s.bytes, nI (x + 1), nI x, tkOf (s.bytes x), 0, s.told)) := hD
              have hP : va_P G.1 vwCl (wSc b G.2.1 (scStep s)) H := by
                rw [scStep_eq hz hZ hx0 hx0Z]
                rw [hsk.trans (skp_n hlt c_6), stT, stV, if_pos hlt, if_pos hlt]
                rw [if_neg c_8, if_neg c_8, if_neg c_11, if_neg c_11]
                rw [stE, if_pos hlt, if_neg c_8, if_neg c_11]
                exact hP
              exact g_wv hx hb hr hlocks hAe hP hS dX3_step_174
            · skip
              have lp_98 : ∀ (fu_98 : Nat) (y : Nat), (x ≤ y) → (y ≤ Z) → (runT s.bytes Z (tkOf (s.bytes x)) (Z - x) x = runT s.bytes Z (tkOf (s.bytes x)) (Z - y) y) → Z - y < fu_98 → ∀ (H : Heap) (locs : List Loc), va_P G.1 vwCl (wSc b G.2.1 (s.size, s.bytes, nI y, nI x, tkOf (s.bytes x), 0, s.told)) H → va_D A (wSc b G.2.1 (s.size, s.bytes, nI y, nI x, tkOf (s.bytes x), 0, s.told)) → va_S A sz.heap H locs → ∀ ls : Array Slot, lv_has ls 1 [(0, .ref (b 0))] → W pz lz ez (gRm 1) sz mz ([.ref (b 0)] : List Value).toArray bz tz cz H locs 0 0 (MQ bz (gQ G (wSc b G.2.1 s) (wSc b G.2.1 (scStep s)) none) ([.ref (b 0)] : List Value).toArray sz 0 0 (gAd (wSc b G.2.1 s))) (F0 mz 98 ls []) := by
                intro fu_98
                induction fu_98 with
                | zero =>
                  intro y hxy hyZ hru hf_98
                  exact absurd hf_98 (Nat.not_lt_zero _)
                | succ fu_98 ih_98 =>
                  intro y hxy hyZ hru hf_98 H locs hP hD hS ls hl
                  refine lv_aload_n hx hb dX3_step_98 rfl (lv_at hl 0 rfl) ?_
                  refine va_get (D := G.1) (ci := 3) (v := .int (nI y)) (C := RX3) (T := TX3) (N := 7) hx hb hts i_X3_step_X3 hown hK.1 hP 0 rfl rfl 2 (by decide) f28 (fun _ h9 => h9) rfl dX3_step_99 ?_
                  refine lv_aload_n hx hb dX3_step_102 rfl (lv_at hl 0 rfl) ?_
                  refine va_get (D := G.1) (ci := 3) (v := .int s.size) (C := RX3) (T := TX3) (N := 7) hx hb hts i_X3_step_X3 hown hK.1 hP 0 rfl rfl 0 (by decide) f15 (fun _ h9 => h9) rfl dX3_step_103 ?_
                  refine lv_icmp_ge (tgt := 141) hx hb dX3_step_106 (by decide) (fun c_13 => ?_) (fun c_13 => ?_)
                  · skip
                    have c_13 := gl_le c_13
                    have hge2 : Z ≤ y := gl_ex hz (by omega) (by omega) c_13
                    refine lv_aload_n hx hb dX3_step_141 rfl (lv_at hl 0 rfl) ?_
                    refine lv_aload_n hx hb dX3_step_142 rfl (lv_at hl 0 rfl) ?_
                    refine va_get (D := G.1) (ci := 3) (v := .int (nI y)) (C := RX3) (T := TX3) (N := 7) hx hb hts i_X3_step_X3 hown hK.1 hP 0 rfl rfl 2 (by decide) f28 (fun _ h9 => h9) rfl dX3_step_143 ?_
                    refine lv_aload_n hx hb dX3_step_146 rfl (lv_at hl 0 rfl) ?_
                    refine va_get (D := G.1) (ci := 3) (v := .int (nI x)) (C := RX3) (T := TX3) (N := 7) hx hb hts i_X3_step_X3 hown hK.1 hP 0 rfl rfl 3 (by decide) f41 (fun _ h9 => h9) rfl dX3_step_147 ?_
                    refine lv_isub hx hb dX3_step_150 ?_
                    refine g_top (y := nI (y - x)) (pk_sub hxy) ?_
                    refine g_wrV (As := [.int (nI (y - x))]) (rest := []) (nL := 1) hx hb hml hown hts (c_X3_weigh lz G b (s.size, s.bytes, nI y, nI x, tkOf (s.bytes x), 0, s.told) Z x (y - x) hz hZ rfl hlt (by omega)) gX3_step_X3_weigh rfl h_X3_weigh ⟨Nat.le_of_ble_eq_true rfl, Nat.le_of_ble_eq_true rfl⟩ hK hP hD hS [0, 1] rfl rfl rfl (ws1 := wSc b G.2.1 (s.size, s.bytes, nI y, nI x, wgT s.bytes x (tkOf (s.bytes x)) (nI (y - x)), wgV s.bytes x (tkOf (s.bytes x)) (nI (y - x)) 0, s.told)) rfl [b 0, b 1] rfl rfl (ci := 3) rfl rfl rfl rfl hl.1 rfl (Nat.le_of_ble_eq_true rfl) ⟨Nat.le_refl _, Nat.le_refl _⟩ dX3_step_151 (fun H locs hP hD hS => ?_)
                    refine lv_goto (tgt := 174) hx hb dX3_step_154 (by decide) ?_
                    have hP : va_P G.1 vwCl (wSc b G.2.1 (scStep s)) H := by
                      rw [scStep_eq hz hZ hx0 hx0Z]
                      rw [hsk.trans (skp_n hlt c_6), stT, stV, if_pos hlt, if_pos hlt]
                      rw [if_neg c_8, if_neg c_8, if_pos c_11, if_pos c_11]
                      rw [stE, if_pos hlt, if_neg c_8, if_pos c_11, hru.trans (runT_e hge2)]
                      exact hP
                    exact g_wv hx hb hr hlocks hAe hP hS dX3_step_174
                  · skip
                    have c_13 := gl_nle c_13
                    have hlt2 : y < Z := gl_in hz (by omega) (by omega) c_13
                    refine lv_aload_n hx hb dX3_step_109 rfl (lv_at hl 0 rfl) ?_
                    refine va_get (D := G.1) (ci := 3) (v := .ref (b 1)) (C := RX3) (T := TX3) (N := 7) hx hb hts i_X3_step_X3 hown hK.1 hP 0 rfl rfl 1 (by decide) f9 (fun _ h9 => h9) rfl dX3_step_110 ?_
                    refine lv_aload_n hx hb dX3_step_113 rfl (lv_at hl 0 rfl) ?_
                    refine va_get (D := G.1) (ci := 3) (v := .int (nI y)) (C := RX3) (T := TX3) (N := 7) hx hb hts i_X3_step_X3 hown hK.1 hP 0 rfl rfl 2 (by decide) f28 (fun _ h9 => h9) rfl dX3_step_114 ?_
                    refine g_iald hx hb hK.1 hP 1 0 rfl rfl (i := y) (by omega) (by decide) dX3_step_117 ?_
                    refine g_rdS (As := [.int (s.bytes y)]) (rest := []) (nL := 1) hx hb hml hown hts (c_X3_tokenOf lz G (s.bytes y)) gX3_step_X3_tokenOf rfl h_X3_tokenOf ⟨Nat.le_of_ble_eq_true rfl, Nat.le_of_ble_eq_true rfl⟩ hK gP_nil rfl hl.1 rfl (Nat.le_of_ble_eq_true rfl) ⟨Nat.le_refl _, Nat.le_refl _⟩ dX3_step_118 ?_
                    refine lv_aload_n hx hb dX3_step_121 rfl (lv_at hl 0 rfl) ?_
                    refine va_get (D := G.1) (ci := 3) (v := .int (tkOf (s.bytes x))) (C := RX3) (T := TX3) (N := 7) hx hb hts i_X3_step_X3 hown hK.1 hP 0 rfl rfl 4 (by decide) f34 (fun _ h9 => h9) rfl dX3_step_122 ?_
                    refine lv_icmp_ne (tgt := 141) hx hb dX3_step_125 (by decide) (fun c_14 => ?_) (fun c_14 => ?_)
                    · skip
                      refine lv_aload_n hx hb dX3_step_141 rfl (lv_at hl 0 rfl) ?_
                      refine lv_aload_n hx hb dX3_step_142 rfl (lv_at hl 0 rfl) ?_
                      refine va_get (D := G.1) (ci := 3) (v := .int (nI y)) (C := RX3) (T := TX3) (N := 7) hx hb hts i_X3_step_X3 hown hK.1 hP 0 rfl rfl 2 (by decide) f28 (fun _ h9 => h9) rfl dX3_step_143 ?_
                      refine lv_aload_n hx hb dX3_step_146 rfl (lv_at hl 0 rfl) ?_
                      refine va_get (D := G.1) (ci := 3) (v := .int (nI x)) (C := RX3) (T := TX3) (N := 7) hx hb hts i_X3_step_X3 hown hK.1 hP 0 rfl rfl 3 (by decide) f41 (fun _ h9 => h9) rfl dX3_step_147 ?_
                      refine lv_isub hx hb dX3_step_150 ?_
                      refine g_top (y := nI (y - x)) (pk_sub hxy) ?_
                      refine g_wrV (As := [.int (nI (y - x))]) (rest := []) (nL := 1) hx hb hml hown hts (c_X3_weigh lz G b (s.size, s.bytes, nI y, nI x, tkOf (s.bytes x), 0, s.told) Z x (y - x) hz hZ rfl hlt (by omega)) gX3_step_X3_weigh rfl h_X3_weigh ⟨Nat.le_of_ble_eq_true rfl, Nat.le_of_ble_eq_true rfl⟩ hK hP hD hS [0, 1] rfl rfl rfl (ws1 := wSc b G.2.1 (s.size, s.bytes, nI y, nI x, wgT s.bytes x (tkOf (s.bytes x)) (nI (y - x)), wgV s.bytes x (tkOf (s.bytes x)) (nI (y - x)) 0, s.told)) rfl [b 0, b 1] rfl rfl (ci := 3) rfl rfl rfl rfl hl.1 rfl (Nat.le_of_ble_eq_true rfl) ⟨Nat.le_refl _, Nat.le_refl _⟩ dX3_step_151 (fun H locs hP hD hS => ?_)
                      refine lv_goto (tgt := 174) hx hb dX3_step_154 (by decide) ?_
                      have hP : va_P G.1 vwCl (wSc b G.2.1 (scStep s)) H := by
                        rw [scStep_eq hz hZ hx0 hx0Z]
                        rw [hsk.trans (skp_n hlt c_6), stT, stV, if_pos hlt, if_pos hlt]
                        rw [if_neg c_8, if_neg c_8, if_pos c_11, if_pos c_11]
                        rw [stE, if_pos hlt, if_neg c_8, if_pos c_11, hru.trans (runT_n hlt2 c_14)]
                        exact hP
                      exact g_wv hx hb hr hlocks hAe hP hS dX3_step_174
                    · skip
                      refine lv_aload_n hx hb dX3_step_128 rfl (lv_at hl 0 rfl) ?_
                      refine lv_dup hx hb dX3_step_129 rfl ?_
                      refine va_get (D := G.1) (ci := 3) (v := .int (nI y)) (C := RX3) (T := TX3) (N := 7) hx hb hts i_X3_step_X3 hown hK.1 hP 0 rfl rfl 2 (by decide) f28 (fun _ h9 => h9) rfl dX3_step_130 ?_
                      refine lv_iconst (v := 1) hx hb dX3_step_133 (by decide) ?_
                      refine lv_iadd hx hb dX3_step_134 ?_
                      refine g_top (y := nI (y + 1)) (nI_1 y) ?_
                      refine va_put (D := G.1) (ci := 3) (v := .int (nI (y + 1))) (ty := .int) (C := RX3) (T := TX3) (N := 7) hx hb hts i_X3_step_X3 tyX3 tyX3_ok nmX3 hown hK.1 hP hD hS 0 rfl rfl 2 (by decide) f28 (fun _ h9 => h9) rfl (by decide +kernel) rfl rfl (Nat.le_of_ble_eq_true rfl) dX3_step_135 (fun H locs hP hD hS => ?_)
                      have hP : va_P G.1 vwCl (wSc b G.2.1 (s.size, s.bytes, nI (y + 1), nI x, tkOf (s.bytes x), 0, s.told)) H := hP
                      have hD : va_D A (wSc b G.2.1 (s.size, s.bytes, nI (y + 1), nI x, tkOf (s.bytes x), 0, s.told)) := hD
                      refine lv_goto (tgt := 98) hx hb dX3_step_138 (by decide) ?_
                      exact ih_98 (y + 1) (by omega) hlt2 (hru.trans (runT_y hlt2 c_14)) (by omega) _ _ hP hD hS ls (lv_sub hl [0] rfl)
              exact lp_98 ((Z - x) + 1) x (Nat.le_refl _) hxZ rfl (Nat.lt_succ_self _) _ _ hP hD hS ls (lv_sub hl [0] rfl)
        · skip
          refine lv_aload_n hx hb dX3_step_25 rfl (lv_at hl 0 rfl) ?_
          refine lv_dup hx hb dX3_step_26 rfl ?_
          refine va_get (D := G.1) (ci := 3) (v := .int (nI x)) (C := RX3) (T := TX3) (N := 7) hx hb hts i_X3_step_X3 hown hK.1 hP 0 rfl rfl 2 (by decide) f28 (fun _ h9 => h9) rfl dX3_step_27 ?_
          refine lv_iconst (v := 1) hx hb dX3_step_30 (by decide) ?_
          refine lv_iadd hx hb dX3_step_31 ?_
          refine g_top (y := nI (x + 1)) (nI_1 x) ?_
          refine va_put (D := G.1) (ci := 3) (v := .int (nI (x + 1))) (ty := .int) (C := RX3) (T := TX3) (N := 7) hx hb hts i_X3_step_X3 tyX3 tyX3_ok nmX3 hown hK.1 hP hD hS 0 rfl rfl 2 (by decide) f28 (fun _ h9 => h9) rfl (by decide +kernel) rfl rfl (Nat.le_of_ble_eq_true rfl) dX3_step_32 (fun H locs hP hD hS => ?_)
          have hP : va_P G.1 vwCl (wSc b G.2.1 (s.size, s.bytes, nI (x + 1), s.tokAt, s.tok, s.val, s.told)) H := hP
          have hD : va_D A (wSc b G.2.1 (s.size, s.bytes, nI (x + 1), s.tokAt, s.tok, s.val, s.told)) := hD
          refine lv_goto (tgt := 0) hx hb dX3_step_35 (by decide) ?_
          exact ih_0 (x + 1) hlt (hsk.trans (skp_y hlt c_6)) (by omega) _ _ hP hD hS ls (lv_sub hl [0] rfl)
  exact lp_0 ((Z - x0) + 1) x0 hx0Z rfl (Nat.lt_succ_self _) _ _ hP hD hS ls (lv_sub hl [0] rfl)

theorem i_X3_readNumber_X3 : ∀ w ∈ wsX30, w ∈ wsX3_readNumber := by decide +kernel
theorem h_X3_readNumber : yX3_readNumber.cls = RX3 ∧ yX3_readNumber.cls ≠ "java/lang/invoke/MethodHandle" ∧ yX3_readNumber.cls ≠ "java/lang/invoke/VarHandle" ∧ (parseMethodDescriptor yX3_readNumber.desc).map (fun d => d.parameters.length) = some 2 := by decide +kernel
set_option maxHeartbeats 4000000 in
set_option maxRecDepth 100000 in
theorem c_X3_readNumber (lz : Launch) (G : gG) (b : Nat → Nat) (s : ScS) (lo hi : Int32) (hs : scOK s) : gWr lz yX3_readNumber wsX3_readNumber 2 G [.ref (b 0), .int lo, .int hi] (wSc b G.2.1 s) (wSc b G.2.1 (scStep s)) (some (.int (bI (numOk (scStep s) lo hi)))) := by
  refine g_wr (by decide) rfl (Nat.le_of_ble_eq_true rfl) ?_
  intro pz ez sz mz bz tz cz hx hb hr hml hown hts hlocks hK A hAe hP hD hS ls hl
  have hl : lv_has ls 3 [(0, .ref (b 0)), (1, .int lo), (2, .int hi)] := hl
  have f34 := hts (.fieldLink RX3 34 "WhisperRing$Script" "token" "I") (by decide +kernel)
  have f44 := hts (.fieldLink RX3 44 "WhisperRing$Script" "value" "I") (by decide +kernel)
  have fniX4 := hts (.initialized RX4) (by decide +kernel)
  have fnsX4_within := hts (.static yX4_within) (by decide +kernel)
  refine lv_aload_n hx hb dX3_readNumber_0 rfl (lv_at hl 0 rfl) ?_
  refine g_wrV (As := []) (rest := []) (nL := 3) hx hb hml hown hts (c_X3_step lz G b s hs) gX3_readNumber_X3_step rfl h_X3_step ⟨Nat.le_of_ble_eq_true rfl, Nat.le_of_ble_eq_true rfl⟩ hK hP hD hS [0, 1] rfl rfl rfl (ws1 := wSc b G.2.1 (scStep s)) rfl [b 0, b 1] rfl rfl (ci := 3) rfl rfl rfl rfl hl.1 rfl (Nat.le_of_ble_eq_true rfl) ⟨Nat.le_refl _, Nat.le_refl _⟩ dX3_readNumber_1 (fun H locs hP hD hS => ?_)
  generalize hg1 : scStep s = t1 at hP hD ⊢
  have ok1 : scOK t1 := by rw [← hg1]; exact scOK_step hs
  have hP : va_P G.1 vwCl (wSc b G.2.1 t1) H := hP
  have hD : va_D A (wSc b G.2.1 t1) := hD
  refine lv_aload_n hx hb dX3_readNumber_4 rfl (lv_at hl 0 rfl) ?_
  refine va_get (D := G.1) (ci := 3) (v := .int t1.tok) (C := RX3) (T := TX3) (N := 7) hx hb hts i_X3_readNumber_X3 hown hK.1 hP 0 rfl rfl 4 (by decide) f34 (fun _ h9 => h9) rfl dX3_readNumber_5 ?_
  refine lv_iconst (v := 2) hx hb dX3_readNumber_8 (by decide) ?_
  refine lv_icmp_ne (tgt := 28) hx hb dX3_readNumber_9 (by decide) (fun c_2 => ?_) (fun c_2 => ?_)
  · skip
    refine lv_iconst (v := 0) hx hb dX3_readNumber_28 (by decide) ?_
    exact g_wz hx hb hr hlocks hAe hP hS dX3_readNumber_29 (by simp [numOk, bI, c_2])
  · skip
    refine lv_aload_n hx hb dX3_readNumber_12 rfl (lv_at hl 0 rfl) ?_
    refine va_get (D := G.1) (ci := 3) (v := .int t1.val) (C := RX3) (T := TX3) (N := 7) hx hb hts i_X3_readNumber_X3 hown hK.1 hP 0 rfl rfl 5 (by decide) f44 (fun _ h9 => h9) rfl dX3_readNumber_13 ?_
    refine lv_iload_n hx hb dX3_readNumber_16 rfl (lv_at hl 1 rfl) ?_
    refine lv_iload_n hx hb dX3_readNumber_17 rfl (lv_at hl 2 rfl) ?_
    refine g_rdN (As := [.int t1.val, .int lo, .int hi]) (rest := []) (nL := 3) hx hb hml hown hts (c_X4_within lz G t1.val lo hi) gX3_readNumber_X4_within_n90 rfl hK.2.2 fniX4 fnsX4_within h_X4_within ⟨Nat.le_of_ble_eq_true rfl, Nat.le_of_ble_eq_true rfl⟩ hK gP_nil rfl hl.1 rfl (Nat.le_of_ble_eq_true rfl) ⟨Nat.le_refl _, Nat.le_refl _⟩ dX3_readNumber_18 ?_
    refine lv_if_eq (tgt := 28) hx hb dX3_readNumber_21 (by decide) (fun c_3 => ?_) (fun c_3 => ?_)
    · skip
      have c_3 := bI_0 c_3
      refine lv_iconst (v := 0) hx hb dX3_readNumber_28 (by decide) ?_
      exact g_wz hx hb hr hlocks hAe hP hS dX3_readNumber_29 (by simp [numOk, bI, c_2, c_3])
    · skip
      have c_3 := bI_1 c_3
      refine lv_iconst (v := 1) hx hb dX3_readNumber_24 (by decide) ?_
      refine lv_goto (tgt := 29) hx hb dX3_readNumber_25 (by decide) ?_
      exact g_wz hx hb hr hlocks hAe hP hS dX3_readNumber_29 (by simp [numOk, bI, c_2, c_3])
