theorem gl_nat_pos (n : Nat) (h : n + 1 < 2 ^ 31) : 0 < nI (n + 1) := (nI_ltI (a := 0) (by decide) h).mpr (Nat.succ_pos n)
theorem gl_ne1 {x : Int32} (h : ¬ x < 1) : ¬ x = 0 := fun q => h (by rw [q]; decide)
theorem wIn_01 {x : Int32} (c : wIn x 0 1 = true) (h : ¬ x = 0) : x = nI 1 := by
  obtain ⟨h1, h2⟩ := wIn_nn (k := 1) (by decide) c
  rw [h2] at h ⊢
  have h3 : x.toNatClampNeg ≠ 0 := fun q => h (by rw [q]; rfl)
  rw [show x.toNatClampNeg = 1 by omega]
def lpS (lo x : Int32) : Nat → Int32 → Int32
  | 0, st => if 0 < st then 1 else 0
  | n + 1, st => if 0 < st then (10 - x) * lpS lo x n (st - lo) + x * lpS lo x n (st - 2 * lo) else 0
def gcL : Nat → Int32 → Int32 → Int32
  | 0, u, _ => u
  | f + 1, u, v => if 0 < v then gcL f v (u - u / v * v) else u
theorem gcL_y {i : Nat} {u v : Int32} (h : i < 64) (c : 0 < v) : gcL (64 - i) u v = gcL (64 - (i + 1)) v (u - u / v * v) := by rw [show 64 - i = (64 - (i + 1)) + 1 by omega, gcL, if_pos c]
theorem gcL_e {i : Nat} {u v : Int32} (h : 64 ≤ i ∨ ¬ 0 < v) : gcL (64 - i) u v = u := by
  rcases Nat.lt_or_ge i 64 with q | q
  · rw [show 64 - i = (64 - (i + 1)) + 1 by omega, gcL]
    rcases h with h | h
    · omega
    · rw [if_neg h]
  · rw [show 64 - i = 0 by omega, gcL]
def pw10 : Nat → Int32
  | 0 => 1
  | i + 1 => pw10 i * 10
def xOdR (h : HaS) (s nn x what : Int32) : Int32 := if wIn s 0 (h.mo.sayings - 1) then (if wIn nn 0 6 then (if wIn x 0 10 then (if wIn what 0 1 then (if gcL 64 (pw10 nn.toNatClampNeg) (lpS h.loss x nn.toNatClampNeg (hStr h s.toNatClampNeg 0)) < 1 then -1 else if what = 0 then lpS h.loss x nn.toNatClampNeg (hStr h s.toNatClampNeg 0) / gcL 64 (pw10 nn.toNatClampNeg) (lpS h.loss x nn.toNatClampNeg (hStr h s.toNatClampNeg 0)) else pw10 nn.toNatClampNeg / gcL 64 (pw10 nn.toNatClampNeg) (lpS h.loss x nn.toNatClampNeg (hStr h s.toNatClampNeg 0))) else -1) else -1) else -1) else -1
def xHeS (h : HaS) (u : HeS) (k : Nat) (p n th : Int32) : HeS := if wIn p 0 (h.pl - 1) then (if wIn n 0 99 then (if wIn th 0 1 then heAdd u k p n th else u) else u) else u
def xHeR (h : HaS) (u : HeS) (k : Nat) (p n th : Int32) : Int32 := if wIn p 0 (h.pl - 1) then (if wIn n 0 99 then (if wIn th 0 1 then (if decide (u.size < 6) then (heAdd u k p n th).size else -3) else -1) else -1) else -1
def guN : Option Nat → Int32
  | some g => 100 * guP (nI g) + 10 * guS (nI g) + guW (nI g)
  | none => -9
def xGuR (h : HaS) (u : HeS) (k N : Nat) (what : Int32) : Int32 := if what = 0 then nI (cntOf (fun g => guFit h u k (nI g)) (N * 12)) else if what = 1 then guN (firstF (fun g => guFit h u k (nI g)) (N * 12) 0) else -1
def sgF (h : HaS) (u : HeS) (k : Nat) (nn : Int32) (ga : Nat → Int32) : Nat → Nat → Int32
  | 0 => lsF (fun _ => 0) ga 24
  | i + 1 => if guFit h u k (nI i) then (if wIn (guAt h (nI i) nn) 0 23 then upd (sgF h u k nn ga i) (guAt h (nI i) nn).toNatClampNeg (sgF h u k nn ga i (guAt h (nI i) nn).toNatClampNeg + 1) else sgF h u k nn ga i) else sgF h u k nn ga i
def asL (f : Nat → Int32) (al : Int32) : Nat → Int32 × Int32
  | 0 => (al, -9)
  | p + 1 => if (if f p < al - f p then al - f p else f p) < (asL f al p).1 then ((if f p < al - f p then al - f p else f p), nI p) else asL f al p
def xAsS (h : HaS) (u : HeS) (k N : Nat) (nn : Int32) (ga : Nat → Int32) : Nat → Int32 := if wIn nn 0 99 then sgF h u k nn ga (N * 12) else ga
def xAsR (h : HaS) (u : HeS) (k N : Nat) (nn : Int32) (ga : Nat → Int32) : Int32 := if wIn nn 0 99 then (asL (sgF h u k nn ga (N * 12)) (nI (cntOf (fun g => guFit h u k (nI g) && wIn (guAt h (nI g) nn) 0 23) (N * 12))) N).2 else -1
def mk0 (h : HaS) (s : Nat) : Int32 := h.mo.loud s
def mk1 (h : HaS) (s : Nat) : Int32 := mk0 h s + hStr h s 0
def mk2 (h : HaS) (s : Nat) : Int32 := mk0 h s - h.mo.speed s
def mk3 (h : HaS) (s : Nat) : Int32 := mk1 h s * 2
def mk4 (h : HaS) (s : Nat) : Int32 := mk2 h s + nI s
def mk5 (h : HaS) (s : Nat) : Int32 := mk0 h s + hPlace h s 0
def xMaT (h : HaS) (tr : Int64) (kd s : Int32) : Int64 := if wIn s 0 (h.mo.sayings - 1) then (if kd = 0 then tr + 1 else if kd = 1 then tr + 10 + 1 else if kd = 2 then tr + 100 + 1 else if kd = 3 then tr + 1000 + 10 + 1 else if kd = 4 then tr + 10000 + 100 + 1 else if kd = 5 then tr + 100000 + 1 else tr) else tr
def xMaR (h : HaS) (kd s : Int32) : Int32 := if wIn s 0 (h.mo.sayings - 1) then (if kd = 0 then mk0 h s.toNatClampNeg else if kd = 1 then mk1 h s.toNatClampNeg else if kd = 2 then mk2 h s.toNatClampNeg else if kd = 3 then mk3 h s.toNatClampNeg else if kd = 4 then mk4 h s.toNatClampNeg else if kd = 5 then mk5 h s.toNatClampNeg else -1000000) else -1000000
def xKe0 (m0 : MoS) (h : HaS) (im : Int32) : MoS := if wIn im 0 1 then (if im = 0 then moCpy m0 h.mo else m0) else m0
def xKe1 (m1 : MoS) (h : HaS) (im : Int32) : MoS := if wIn im 0 1 then (if im = 0 then m1 else moCpy m1 h.mo) else m1
def xKeK (ke : Nat → Int32) (im : Int32) : Nat → Int32 := if wIn im 0 1 then (if im = 0 then upd ke 0 1 else upd ke 1 1) else ke
def xBaS (h : HaS) (m0 m1 : MoS) (ke : Nat → Int32) (im : Int32) : HaS := if wIn im 0 1 then (if im = 0 then (if ke 0 = 0 then h else (h.pl, h.loss, h.nich, moCpy h.mo m0, h.ats, h.str)) else (if ke 1 = 0 then h else (h.pl, h.loss, h.nich, moCpy h.mo m1, h.ats, h.str))) else h
def xBaR (h : HaS) (m0 m1 : MoS) (ke : Nat → Int32) (im : Int32) : Int32 := if wIn im 0 1 then (if im = 0 then (if ke 0 = 0 then -2 else m0.tick) else (if ke 1 = 0 then -2 else m1.tick)) else -1
def xCoR (sc : ScS) (u : HeS) (h : HaS) (what : Int32) : Int32 := if what = 0 then h.pl else if what = 1 then h.mo.sayings else if what = 2 then h.loss else if what = 3 then jBc h.nich else if what = 4 then u.size else if what = 5 then h.mo.noted else if what = 6 then sc.size else -1
theorem h_X4_lastingParts : yX4_lastingParts.cls ≠ "java/lang/invoke/MethodHandle" ∧ yX4_lastingParts.cls ≠ "java/lang/invoke/VarHandle" ∧ (parseMethodDescriptor yX4_lastingParts.desc).map (fun d => d.parameters.length) = some 4 := by decide +kernel
set_option maxHeartbeats 4000000 in
set_option maxRecDepth 100000 in
theorem c_X4_lastingParts (lz : Launch) (G : gG) : ∀ (n : Nat), n ≤ 6 → ∀ (st lo x : Int32), gRd lz yX4_lastingParts wsX4_lastingParts n G [.int st, .int lo, .int (nI n), .int x] [] (lpS lo x n st) := by
  intro n
  induction n with
  | zero =>
    intro hn6 st lo x
    refine g_rd (by decide) rfl (Nat.le_of_ble_eq_true rfl) ?_
    intro pz ez sz mz bz tz cz hx hb hr hml hown hts hlocks hP hK ls hl
    have hl : lv_has ls 4 [(0, .int st), (1, .int lo), (2, .int (nI 0)), (3, .int x)] := hl
    refine lv_iload_n hx hb dX4_lastingParts_0 rfl (lv_at hl 0 rfl) ?_
    refine lv_if_gt (tgt := 6) hx hb dX4_lastingParts_1 (by decide) (fun c_1 => ?_) (fun c_1 => ?_)
    · skip
      refine lv_iload_n hx hb dX4_lastingParts_6 rfl (lv_at hl 2 rfl) ?_
      refine lv_if_gt (tgt := 12) hx hb dX4_lastingParts_7 (by decide) (fun c_2 => absurd c_2 (by decide)) (fun c_2 => ?_)
      refine lv_iconst (v := 1) hx hb dX4_lastingParts_10 (by decide) ?_
      exact g_ri hx hb hr hlocks dX4_lastingParts_11 (by rw [lpS] <;> (first | done | rw [if_pos c_1] | rw [if_neg c_1] | rw [if_neg (by rw [c_1]; decide)] | skip) <;> (first | done | rfl))
    · skip
      refine lv_iconst (v := 0) hx hb dX4_lastingParts_4 (by decide) ?_
      exact g_ri hx hb hr hlocks dX4_lastingParts_5 (by rw [lpS] <;> (first | done | rw [if_pos c_1] | rw [if_neg c_1] | rw [if_neg (by rw [c_1]; decide)] | skip) <;> (first | done | rfl))
  
  | succ n ih =>
    intro hn6 st lo x
    refine g_rd (by decide) rfl (Nat.le_of_ble_eq_true rfl) ?_
    intro pz ez sz mz bz tz cz hx hb hr hml hown hts hlocks hP hK ls hl
    have hl : lv_has ls 4 [(0, .int st), (1, .int lo), (2, .int (nI (n + 1))), (3, .int x)] := hl
    refine lv_iload_n hx hb dX4_lastingParts_0 rfl (lv_at hl 0 rfl) ?_
    refine lv_if_gt (tgt := 6) hx hb dX4_lastingParts_1 (by decide) (fun c_1 => ?_) (fun c_1 => ?_)
    · skip
      refine lv_iload_n hx hb dX4_lastingParts_6 rfl (lv_at hl 2 rfl) ?_
      refine lv_if_gt (tgt := 12) hx hb dX4_lastingParts_7 (by decide) (fun c_2 => ?_) (fun c_2 => absurd (gl_nat_pos n (by omega)) c_2)
      refine lv_bipush (v := 10) hx hb dX4_lastingParts_12 (by decide) ?_
      refine lv_iload_n hx hb dX4_lastingParts_14 rfl (lv_at hl 3 rfl) ?_
      refine lv_isub hx hb dX4_lastingParts_15 ?_
      refine lv_iload_n hx hb dX4_lastingParts_16 rfl (lv_at hl 0 rfl) ?_
      refine lv_iload_n hx hb dX4_lastingParts_17 rfl (lv_at hl 1 rfl) ?_
      refine lv_isub hx hb dX4_lastingParts_18 ?_
      refine lv_iload_n hx hb dX4_lastingParts_19 rfl (lv_at hl 1 rfl) ?_
      refine lv_iload_n hx hb dX4_lastingParts_20 rfl (lv_at hl 2 rfl) ?_
      refine lv_iconst (v := 1) hx hb dX4_lastingParts_21 (by decide) ?_
      refine lv_isub hx hb dX4_lastingParts_22 ?_
      refine g_top (y := nI n) (nI_pred n) ?_
      refine lv_iload_n hx hb dX4_lastingParts_23 rfl (lv_at hl 3 rfl) ?_
      refine g_rdS (As := [.int (st - lo), .int lo, .int (nI n), .int x]) (rest := [.int (10 - x)]) (nL := 4) hx hb hml hown hts (ih (by omega) (st - lo) lo x) gX4_lastingParts_X4_lastingParts rfl h_X4_lastingParts ⟨Nat.le_refl _, by show 8 + (4 + 11) + 40 * n ≤ 40 * (n + 1); omega⟩ hK gP_nil rfl hl.1 rfl (Nat.le_of_ble_eq_true rfl) ⟨Nat.le_refl _, Nat.le_refl _⟩ dX4_lastingParts_24 ?_
      refine lv_imul hx hb dX4_lastingParts_27 ?_
      refine lv_iload_n hx hb dX4_lastingParts_28 rfl (lv_at hl 3 rfl) ?_
      refine lv_iload_n hx hb dX4_lastingParts_29 rfl (lv_at hl 0 rfl) ?_
      refine lv_iconst (v := 2) hx hb dX4_lastingParts_30 (by decide) ?_
      refine lv_iload_n hx hb dX4_lastingParts_31 rfl (lv_at hl 1 rfl) ?_
      refine lv_imul hx hb dX4_lastingParts_32 ?_
      refine lv_isub hx hb dX4_lastingParts_33 ?_
      refine lv_iload_n hx hb dX4_lastingParts_34 rfl (lv_at hl 1 rfl) ?_
      refine lv_iload_n hx hb dX4_lastingParts_35 rfl (lv_at hl 2 rfl) ?_
      refine lv_iconst (v := 1) hx hb dX4_lastingParts_36 (by decide) ?_
      refine lv_isub hx hb dX4_lastingParts_37 ?_
      refine g_top (y := nI n) (nI_pred n) ?_
      refine lv_iload_n hx hb dX4_lastingParts_38 rfl (lv_at hl 3 rfl) ?_
      refine g_rdS (As := [.int (st - (2 * lo)), .int lo, .int (nI n), .int x]) (rest := [.int x, .int ((10 - x) * (lpS lo x n (st - lo)))]) (nL := 4) hx hb hml hown hts (ih (by omega) (st - (2 * lo)) lo x) gX4_lastingParts_X4_lastingParts rfl h_X4_lastingParts ⟨Nat.le_refl _, by show 8 + (4 + 11) + 40 * n ≤ 40 * (n + 1); omega⟩ hK gP_nil rfl hl.1 rfl (Nat.le_of_ble_eq_true rfl) ⟨Nat.le_refl _, Nat.le_refl _⟩ dX4_lastingParts_39 ?_
      refine lv_imul hx hb dX4_lastingParts_42 ?_
      refine lv_iadd hx hb dX4_lastingParts_43 ?_
      exact g_ri hx hb hr hlocks dX4_lastingParts_44 (by rw [lpS] <;> (first | done | rw [if_pos c_1] | rw [if_neg c_1] | rw [if_neg (by rw [c_1]; decide)] | skip) <;> (first | done | rfl))
    · skip
      refine lv_iconst (v := 0) hx hb dX4_lastingParts_4 (by decide) ?_
      exact g_ri hx hb hr hlocks dX4_lastingParts_5 (by rw [lpS] <;> (first | done | rw [if_pos c_1] | rw [if_neg c_1] | rw [if_neg (by rw [c_1]; decide)] | skip) <;> (first | done | rfl))
  

theorem h_X4_commonDivisor : yX4_commonDivisor.cls ≠ "java/lang/invoke/MethodHandle" ∧ yX4_commonDivisor.cls ≠ "java/lang/invoke/VarHandle" ∧ (parseMethodDescriptor yX4_commonDivisor.desc).map (fun d => d.parameters.length) = some 2 := by decide +kernel
set_option maxHeartbeats 4000000 in
set_option maxRecDepth 100000 in
theorem c_X4_commonDivisor (lz : Launch) (G : gG) (x y : Int32) : gRd lz yX4_commonDivisor wsX4_commonDivisor 0 G [.int x, .int y] ([]) (gcL 64 x y) := by
  refine g_rd (by decide) rfl (Nat.le_of_ble_eq_true rfl) ?_
  intro pz ez sz mz bz tz cz hx hb hr hml hown hts hlocks hP hK ls hl
  have hl : lv_has ls 6 [(0, .int x), (1, .int y)] := hl
  refine lv_iload_n hx hb dX4_commonDivisor_0 rfl (lv_at hl 0 rfl) ?_
  refine lv_istore_n (lv' := [(2, .int x), (0, .int x), (1, .int y)]) hx hb dX4_commonDivisor_1 rfl hl (by decide) rfl (fun ls hl => ?_)
  refine lv_iload_n hx hb dX4_commonDivisor_2 rfl (lv_at hl 2 rfl) ?_
  refine lv_istore_n (lv' := [(3, .int y), (2, .int x), (0, .int x), (1, .int y)]) hx hb dX4_commonDivisor_3 rfl hl (by decide) rfl (fun ls hl => ?_)
  refine lv_iconst (v := 0) hx hb dX4_commonDivisor_4 (by decide) ?_
  refine lv_istore (lv' := [(4, .int 0), (3, .int y), (2, .int x), (0, .int x), (1, .int y)]) hx hb dX4_commonDivisor_5 hl (by decide) rfl (fun ls hl => ?_)
  have lp_7 : ∀ (fu_7 : Nat) (i : Nat) (u : Int32) (v : Int32), (i ≤ 64) → (gcL 64 x y = gcL (64 - i) u v) → 64 - i < fu_7 → ∀ ls : Array Slot, lv_has ls 6 [(0, .int x), (1, .int y), (2, .int u), (3, .int v), (4, .int (nI i))] → W pz lz ez (gRm 0) sz mz ([.int x, .int y] : List Value).toArray bz tz cz sz.heap [] 0 0 (MQ bz (vp_Si (fun xx_ => xx_ = gcL 64 x y)) ([.int x, .int y] : List Value).toArray sz 0 0 (fun _ => False)) (F0 mz 7 ls []) := by
    intro fu_7
    induction fu_7 with
    | zero =>
      intro i u v hi he hf_7
      exact absurd hf_7 (Nat.not_lt_zero _)
    | succ fu_7 ih_7 =>
      intro i u v hi he hf_7 ls hl
      refine lv_iload hx hb dX4_commonDivisor_7 (lv_at hl 4 rfl) ?_
      refine lv_bipush (v := 64) hx hb dX4_commonDivisor_9 (by decide) ?_
      refine lv_icmp_ge (tgt := 34) hx hb dX4_commonDivisor_11 (by decide) (fun c_1 => ?_) (fun c_1 => ?_)
      · skip
        have c_1 := gl_le c_1
        have hx2 : 64 ≤ i := gl_nl rfl (y := 64) (k := 64) rfl (by omega) (by decide) c_1
        refine lv_iload_n hx hb dX4_commonDivisor_34 rfl (lv_at hl 2 rfl) ?_
        exact g_ri hx hb hr hlocks dX4_commonDivisor_35 (he.trans (gcL_e (Or.inl hx2))).symm
      · skip
        have c_1 := gl_nle c_1
        have hlt : i < 64 := gl_ll rfl (y := 64) (k := 64) rfl (by omega) (by decide) c_1
        refine lv_iload_n hx hb dX4_commonDivisor_14 rfl (lv_at hl 3 rfl) ?_
        refine lv_if_le (tgt := 34) hx hb dX4_commonDivisor_15 (by decide) (fun c_2 => ?_) (fun c_2 => ?_)
        · skip
          have c_2 := gl_le c_2
          refine lv_iload_n hx hb dX4_commonDivisor_34 rfl (lv_at hl 2 rfl) ?_
          exact g_ri hx hb hr hlocks dX4_commonDivisor_35 (he.trans (gcL_e (Or.inr c_2))).symm
        · skip
          have c_2 := gl_nle c_2
          have hne : ¬ v = 0 := fun q => by rw [q] at c_2; exact absurd c_2 (by decide)
          refine lv_iload_n hx hb dX4_commonDivisor_18 rfl (lv_at hl 2 rfl) ?_
          refine lv_iload_n hx hb dX4_commonDivisor_19 rfl (lv_at hl 3 rfl) ?_
          refine lv_irem hx hb dX4_commonDivisor_20 (by assumption) ?_
          refine lv_istore (lv' := [(5, .int (u - u / v * v)), (0, .int x), (1, .int y), (2, .int u), (3, .int v), (4, .int (nI i))]) hx hb dX4_commonDivisor_21 hl (by decide) rfl (fun ls hl => ?_)
          refine lv_iload_n hx hb dX4_commonDivisor_23 rfl (lv_at hl 4 rfl) ?_
          refine lv_istore_n (lv' := [(2, .int v), (5, .int (u - u / v * v)), (0, .int x), (1, .int y), (3, .int v), (4, .int (nI i))]) hx hb dX4_commonDivisor_24 rfl hl (by decide) rfl (fun ls hl => ?_)
          refine lv_iload hx hb dX4_commonDivisor_25 (lv_at hl 1 rfl) ?_
          refine lv_istore_n (lv' := [(3, .int (u - u / v * v)), (2, .int v), (5, .int (u - u / v * v)), (0, .int x), (1, .int y), (4, .int (nI i))]) hx hb dX4_commonDivisor_27 rfl hl (by decide) rfl (fun ls hl => ?_)
          refine lv_iinc (v := nI (i + 1)) (lv' := [(4, .int (nI (i + 1))), (3, .int (u - u / v * v)), (2, .int v), (5, .int (u - u / v * v)), (0, .int x), (1, .int y)]) hx hb dX4_commonDivisor_28 hl (k := 5) rfl (nI_1 i) (by decide) rfl (fun ls hl => ?_)
          refine lv_goto (tgt := 7) hx hb dX4_commonDivisor_31 (by decide) ?_
          exact ih_7 (i + 1) v (u - u / v * v) hlt (he.trans (gcL_y hlt c_2)) (by omega) ls (lv_sub hl [4, 5, 2, 1, 0] rfl)
  exact lp_7 ((64 - 0) + 1) 0 x y (Nat.zero_le _) rfl (Nat.lt_succ_self _) ls (lv_sub hl [3, 4, 2, 1, 0] rfl)

theorem i_X4_odds_X0 : ∀ w ∈ wsX00, w ∈ wsX4_odds := by decide +kernel
theorem i_X4_odds_X4 : ∀ w ∈ wsX40, w ∈ wsX4_odds := by decide +kernel
theorem h_X4_odds : yX4_odds.cls = RX4 ∧ yX4_odds.cls ≠ "java/lang/invoke/MethodHandle" ∧ yX4_odds.cls ≠ "java/lang/invoke/VarHandle" ∧ (parseMethodDescriptor yX4_odds.desc).map (fun d => d.parameters.length) = some 4 := by decide +kernel
set_option maxHeartbeats 4000000 in
set_option maxRecDepth 100000 in
theorem c_X4_odds (lz : Launch) (G : gG) (r b f a d : Nat → Nat) (tr : Int64) (h : HaS) (n : Nat) (s nn x what : Int32) (hn : h.mo.sayings = nI n) (hn8 : n ≤ 8) : gRd lz yX4_odds wsX4_odds 8 G [.ref (r 0), .int s, .int nn, .int x, .int what] (wRi r b f a d tr ++ wHa a G.2.1 h) (xOdR h s nn x what) := by
  refine g_rd (by decide) rfl (Nat.le_of_ble_eq_true rfl) ?_
  intro pz ez sz mz bz tz cz hx hb hr hml hown hts hlocks hP hK ls hl
  have hl : lv_has ls 8 [(0, .ref (r 0)), (1, .int s), (2, .int nn), (3, .int x), (4, .int what)] := hl
  have f196 := hts (.fieldLink RX4 196 "WhisperRing$Hall" "loss" "I") (by decide +kernel)
  have f41 := hts (.fieldLink RX4 41 "WhisperRing" "hall" "LWhisperRing$Hall;") (by decide +kernel)
  refine lv_aload_n hx hb dX4_odds_0 rfl (lv_at hl 0 rfl) ?_
  refine va_get (D := G.1) (ci := 4) (v := .ref (a 0)) (C := RX4) (T := TX4) (N := 8) hx hb hts i_X4_odds_X4 hown hK.1 hP 0 rfl rfl 5 (by decide) f41 (fun _ h9 => h9) rfl dX4_odds_1 ?_
  refine lv_iload_n hx hb dX4_odds_4 rfl (lv_at hl 1 rfl) ?_
  refine g_rdV (As := [.int s]) (rest := []) (nL := 8) hx hb hml hown hts (c_X0_hasSaying lz G a h s) gX4_odds_X0_hasSaying rfl h_X0_hasSaying ⟨Nat.le_of_ble_eq_true rfl, Nat.le_of_ble_eq_true rfl⟩ hK (hP.sub [1, 2, 3, 4, 5, 6, 7, 8, 9, 10] rfl) (ci := 0) rfl rfl rfl rfl hl.1 rfl (Nat.le_of_ble_eq_true rfl) ⟨Nat.le_refl _, Nat.le_refl _⟩ dX4_odds_5 ?_
  refine lv_if_eq (tgt := 41) hx hb dX4_odds_8 (by decide) (fun c_1 => ?_) (fun c_1 => ?_)
  · skip
    have c_1 := bI_0 c_1
    refine lv_iconst (v := (-1)) hx hb dX4_odds_41 (by decide) ?_
    exact g_ri hx hb hr hlocks dX4_odds_42 (by rw [xOdR] <;> (first | done | rw [if_pos c_1] | rw [if_neg c_1] | rw [if_neg (by rw [c_1]; decide)] | skip) <;> (first | done | rfl | (simp only [c_1]; rfl) | (simp [c_1, bI]; done)))
  · skip
    have c_1 := bI_1 c_1
    obtain ⟨hj, hsj⟩ := wIn_nat hn hn8 c_1
    refine lv_iload_n hx hb dX4_odds_11 rfl (lv_at hl 2 rfl) ?_
    refine lv_iconst (v := 0) hx hb dX4_odds_12 (by decide) ?_
    refine lv_bipush (v := 6) hx hb dX4_odds_13 (by decide) ?_
    refine g_rdS (As := [.int nn, .int 0, .int 6]) (rest := []) (nL := 8) hx hb hml hown hts (c_X4_within lz G nn 0 6) gX4_odds_X4_within rfl h_X4_within ⟨Nat.le_of_ble_eq_true rfl, Nat.le_of_ble_eq_true rfl⟩ hK gP_nil rfl hl.1 rfl (Nat.le_of_ble_eq_true rfl) ⟨Nat.le_refl _, Nat.le_refl _⟩ dX4_odds_15 ?_
    refine lv_if_eq (tgt := 41) hx hb dX4_odds_18 (by decide) (fun c_2 => ?_) (fun c_2 => ?_)
    · skip
      have c_2 := bI_0 c_2
      refine lv_iconst (v := (-1)) hx hb dX4_odds_41 (by decide) ?_
      exact g_ri hx hb hr hlocks dX4_odds_42 (by rw [xOdR] <;> (first | done | rw [if_pos c_1] | rw [if_neg c_1] | rw [if_neg (by rw [c_1]; decide)] | skip) <;> (first | done | rw [if_pos c_2] | rw [if_neg c_2] | rw [if_neg (by rw [c_2]; decide)] | skip) <;> (first | done | rfl | (simp only [c_1, c_2]; rfl) | (simp [c_1, c_2, bI]; done)))
    · skip
      have c_2 := bI_1 c_2
      obtain ⟨hq6, hq⟩ := wIn_nn (k := 6) (by decide) c_2
      refine lv_iload_n hx hb dX4_odds_21 rfl (lv_at hl 3 rfl) ?_
      refine lv_iconst (v := 0) hx hb dX4_odds_22 (by decide) ?_
      refine lv_bipush (v := 10) hx hb dX4_odds_23 (by decide) ?_
      refine g_rdS (As := [.int x, .int 0, .int 10]) (rest := []) (nL := 8) hx hb hml hown hts (c_X4_within lz G x 0 10) gX4_odds_X4_within rfl h_X4_within ⟨Nat.le_of_ble_eq_true rfl, Nat.le_of_ble_eq_true rfl⟩ hK gP_nil rfl hl.1 rfl (Nat.le_of_ble_eq_true rfl) ⟨Nat.le_refl _, Nat.le_refl _⟩ dX4_odds_25 ?_
      refine lv_if_eq (tgt := 41) hx hb dX4_odds_28 (by decide) (fun c_3 => ?_) (fun c_3 => ?_)
      · skip
        have c_3 := bI_0 c_3
        refine lv_iconst (v := (-1)) hx hb dX4_odds_41 (by decide) ?_
        exact g_ri hx hb hr hlocks dX4_odds_42 (by rw [xOdR] <;> (first | done | rw [if_pos c_1] | rw [if_neg c_1] | rw [if_neg (by rw [c_1]; decide)] | skip) <;> (first | done | rw [if_pos c_2] | rw [if_neg c_2] | rw [if_neg (by rw [c_2]; decide)] | skip) <;> (first | done | rw [if_pos c_3] | rw [if_neg c_3] | rw [if_neg (by rw [c_3]; decide)] | skip) <;> (first | done | rfl | (simp only [c_1, c_2, c_3]; rfl) | (simp [c_1, c_2, c_3, bI]; done)))
      · skip
        have c_3 := bI_1 c_3
        refine lv_iload hx hb dX4_odds_31 (lv_at hl 4 rfl) ?_
        refine lv_iconst (v := 0) hx hb dX4_odds_33 (by decide) ?_
        refine lv_iconst (v := 1) hx hb dX4_odds_34 (by decide) ?_
        refine g_rdS (As := [.int what, .int 0, .int 1]) (rest := []) (nL := 8) hx hb hml hown hts (c_X4_within lz G what 0 1) gX4_odds_X4_within rfl h_X4_within ⟨Nat.le_of_ble_eq_true rfl, Nat.le_of_ble_eq_true rfl⟩ hK gP_nil rfl hl.1 rfl (Nat.le_of_ble_eq_true rfl) ⟨Nat.le_refl _, Nat.le_refl _⟩ dX4_odds_35 ?_
        refine lv_if_ne (tgt := 43) hx hb dX4_odds_38 (by decide) (fun c_4 => ?_) (fun c_4 => ?_)
        · skip
          have c_4 := bI_1 c_4
          refine lv_iconst (v := 1) hx hb dX4_odds_43 (by decide) ?_
          refine lv_istore (lv' := [(5, .int 1), (0, .ref (r 0)), (1, .int s), (2, .int nn), (3, .int x), (4, .int what)]) hx hb dX4_odds_44 hl (by decide) rfl (fun ls hl => ?_)
          refine lv_iconst (v := 0) hx hb dX4_odds_46 (by decide) ?_
          refine lv_istore (lv' := [(6, .int 0), (5, .int 1), (0, .ref (r 0)), (1, .int s), (2, .int nn), (3, .int x), (4, .int what)]) hx hb dX4_odds_47 hl (by decide) rfl (fun ls hl => ?_)
          have lp_49 : ∀ (fu_49 : Nat) (i : Nat) (w : Int32), (i ≤ nn.toNatClampNeg) → (w = pw10 i) → nn.toNatClampNeg - i < fu_49 → ∀ ls : Array Slot, lv_has ls 8 [(0, .ref (r 0)), (1, .int s), (2, .int nn), (3, .int x), (4, .int what), (5, .int w), (6, .int (nI i))] → W pz lz ez (gRm 8) sz mz ([.ref (r 0), .int s, .int nn, .int x, .int what] : List Value).toArray bz tz cz sz.heap [] 0 0 (MQ bz (vp_Si (fun xx_ => xx_ = xOdR h s nn x what)) ([.ref (r 0), .int s, .int nn, .int x, .int what] : List Value).toArray sz 0 0 (fun _ => False)) (F0 mz 49 ls []) := by
            intro fu_49
            induction fu_49 with
            | zero =>
              intro i w hi hw hf_49
              exact absurd hf_49 (Nat.not_lt_zero _)
            | succ fu_49 ih_49 =>
              intro i w hi hw hf_49 ls hl
              refine lv_iload hx hb dX4_odds_49 (lv_at hl 6 rfl) ?_
              refine lv_iload_n hx hb dX4_odds_51 rfl (lv_at hl 2 rfl) ?_
              refine lv_icmp_ge (tgt := 68) hx hb dX4_odds_52 (by decide) (fun c_5 => ?_) (fun c_5 => ?_)
              · skip
                have c_5 := gl_le c_5
                have hx2 : nn.toNatClampNeg ≤ i := gl_ex hq (by omega) (by omega) c_5
                refine lv_aload_n hx hb dX4_odds_68 rfl (lv_at hl 0 rfl) ?_
                refine va_get (D := G.1) (ci := 4) (v := .ref (a 0)) (C := RX4) (T := TX4) (N := 8) hx hb hts i_X4_odds_X4 hown hK.1 hP 0 rfl rfl 5 (by decide) f41 (fun _ h9 => h9) rfl dX4_odds_69 ?_
                refine lv_iload_n hx hb dX4_odds_72 rfl (lv_at hl 1 rfl) ?_
                refine g_top (y := nI s.toNatClampNeg) (hsj) ?_
                refine lv_iconst (v := 0) hx hb dX4_odds_73 (by decide) ?_
                refine g_rdV (As := [.int (nI s.toNatClampNeg), .int 0]) (rest := []) (nL := 8) hx hb hml hown hts (c_X0_strengthAfter lz G a h s.toNatClampNeg 0 (by omega)) gX4_odds_X0_strengthAfter rfl h_X0_strengthAfter ⟨Nat.le_of_ble_eq_true rfl, Nat.le_of_ble_eq_true rfl⟩ hK (hP.sub [1, 2, 3, 4, 5, 6, 7, 8, 9, 10] rfl) (ci := 0) rfl rfl rfl rfl hl.1 rfl (Nat.le_of_ble_eq_true rfl) ⟨Nat.le_refl _, Nat.le_refl _⟩ dX4_odds_74 ?_
                refine lv_aload_n hx hb dX4_odds_77 rfl (lv_at hl 0 rfl) ?_
                refine va_get (D := G.1) (ci := 4) (v := .ref (a 0)) (C := RX4) (T := TX4) (N := 8) hx hb hts i_X4_odds_X4 hown hK.1 hP 0 rfl rfl 5 (by decide) f41 (fun _ h9 => h9) rfl dX4_odds_78 ?_
                refine va_get (D := G.1) (ci := 0) (v := .int h.loss) (C := RX0) (T := TX0) (N := 6) hx hb hts i_X4_odds_X0 hown hK.1 hP 1 rfl rfl 1 (by decide) f196 (fun _ h9 => h9) rfl dX4_odds_81 ?_
                refine lv_iload_n hx hb dX4_odds_84 rfl (lv_at hl 2 rfl) ?_
                refine g_top (y := nI nn.toNatClampNeg) (hq) ?_
                refine lv_iload_n hx hb dX4_odds_85 rfl (lv_at hl 3 rfl) ?_
                refine g_rdS (As := [.int (hStr h s.toNatClampNeg 0), .int h.loss, .int (nI nn.toNatClampNeg), .int x]) (rest := []) (nL := 8) hx hb hml hown hts (c_X4_lastingParts lz G nn.toNatClampNeg (by omega) (hStr h s.toNatClampNeg 0) h.loss x) gX4_odds_X4_lastingParts rfl h_X4_lastingParts ⟨by show _ + 1 ≤ 8; omega, by show 8 + (4 + 11) + 40 * _ ≤ 40 * 8; omega⟩ hK gP_nil rfl hl.1 rfl (Nat.le_of_ble_eq_true rfl) ⟨Nat.le_refl _, Nat.le_refl _⟩ dX4_odds_86 ?_
                refine lv_istore (lv' := [(6, .int (lpS h.loss x nn.toNatClampNeg (hStr h s.toNatClampNeg 0))), (0, .ref (r 0)), (1, .int s), (2, .int nn), (3, .int x), (4, .int what), (5, .int w)]) hx hb dX4_odds_89 hl (by decide) rfl (fun ls hl => ?_)
                refine lv_iload hx hb dX4_odds_91 (lv_at hl 6 rfl) ?_
                refine lv_iload hx hb dX4_odds_93 (lv_at hl 0 rfl) ?_
                refine g_rdS (As := [.int w, .int (lpS h.loss x nn.toNatClampNeg (hStr h s.toNatClampNeg 0))]) (rest := []) (nL := 8) hx hb hml hown hts (c_X4_commonDivisor lz G w (lpS h.loss x nn.toNatClampNeg (hStr h s.toNatClampNeg 0))) gX4_odds_X4_commonDivisor rfl h_X4_commonDivisor ⟨Nat.le_of_ble_eq_true rfl, Nat.le_of_ble_eq_true rfl⟩ hK gP_nil rfl hl.1 rfl (Nat.le_of_ble_eq_true rfl) ⟨Nat.le_refl _, Nat.le_refl _⟩ dX4_odds_95 ?_
                refine lv_istore (lv' := [(7, .int (gcL 64 w (lpS h.loss x nn.toNatClampNeg (hStr h s.toNatClampNeg 0)))), (6, .int (lpS h.loss x nn.toNatClampNeg (hStr h s.toNatClampNeg 0))), (0, .ref (r 0)), (1, .int s), (2, .int nn), (3, .int x), (4, .int what), (5, .int w)]) hx hb dX4_odds_98 hl (by decide) rfl (fun ls hl => ?_)
                refine lv_iload hx hb dX4_odds_100 (lv_at hl 0 rfl) ?_
                refine lv_iconst (v := 1) hx hb dX4_odds_102 (by decide) ?_
                refine lv_icmp_ge (tgt := 108) hx hb dX4_odds_103 (by decide) (fun c_6 => ?_) (fun c_6 => ?_)
                · skip
                  have c_6 := gl_le c_6
                  have hne : ¬ gcL 64 w (lpS h.loss x nn.toNatClampNeg (hStr h s.toNatClampNeg 0)) = 0 := gl_ne1 c_6
                  refine lv_iload hx hb dX4_odds_108 (lv_at hl 6 rfl) ?_
                  refine lv_if_ne (tgt := 121) hx hb dX4_odds_110 (by decide) (fun c_7 => ?_) (fun c_7 => ?_)
                  · skip
                    refine lv_iload hx hb dX4_odds_121 (lv_at hl 7 rfl) ?_
                    refine lv_iload hx hb dX4_odds_123 (lv_at hl 0 rfl) ?_
                    refine lv_idiv hx hb dX4_odds_125 (by assumption) ?_
                    exact g_ri hx hb hr hlocks dX4_odds_126 (by rw [xOdR] <;> (try rw [← show w = pw10 nn.toNatClampNeg by rw [hw, show i = nn.toNatClampNeg by omega]]) <;> (first | done | rw [if_pos c_1] | rw [if_neg c_1] | rw [if_neg (by rw [c_1]; decide)] | skip) <;> (first | done | rw [if_pos c_2] | rw [if_neg c_2] | rw [if_neg (by rw [c_2]; decide)] | skip) <;> (first | done | rw [if_pos c_3] | rw [if_neg c_3] | rw [if_neg (by rw [c_3]; decide)] | skip) <;> (first | done | rw [if_pos c_4] | rw [if_neg c_4] | rw [if_neg (by rw [c_4]; decide)] | skip) <;> (first | done | rw [if_pos c_5] | rw [if_neg c_5] | rw [if_neg (by rw [c_5]; decide)] | skip) <;> (first | done | rw [if_pos c_6] | rw [if_neg c_6] | rw [if_neg (by rw [c_6]; decide)] | skip) <;> (first | done | rw [if_pos c_7] | rw [if_neg c_7] | rw [if_neg (by rw [c_7]; decide)] | skip) <;> (first | done | rfl))
                  · skip
                    refine lv_iload hx hb dX4_odds_113 (lv_at hl 1 rfl) ?_
                    refine lv_iload hx hb dX4_odds_115 (lv_at hl 0 rfl) ?_
                    refine lv_idiv hx hb dX4_odds_117 (by assumption) ?_
                    refine lv_goto (tgt := 126) hx hb dX4_odds_118 (by decide) ?_
                    exact g_ri hx hb hr hlocks dX4_odds_126 (by rw [xOdR] <;> (try rw [← show w = pw10 nn.toNatClampNeg by rw [hw, show i = nn.toNatClampNeg by omega]]) <;> (first | done | rw [if_pos c_1] | rw [if_neg c_1] | rw [if_neg (by rw [c_1]; decide)] | skip) <;> (first | done | rw [if_pos c_2] | rw [if_neg c_2] | rw [if_neg (by rw [c_2]; decide)] | skip) <;> (first | done | rw [if_pos c_3] | rw [if_neg c_3] | rw [if_neg (by rw [c_3]; decide)] | skip) <;> (first | done | rw [if_pos c_4] | rw [if_neg c_4] | rw [if_neg (by rw [c_4]; decide)] | skip) <;> (first | done | rw [if_pos c_5] | rw [if_neg c_5] | rw [if_neg (by rw [c_5]; decide)] | skip) <;> (first | done | rw [if_pos c_6] | rw [if_neg c_6] | rw [if_neg (by rw [c_6]; decide)] | skip) <;> (first | done | rw [if_pos c_7] | rw [if_neg c_7] | rw [if_neg (by rw [c_7]; decide)] | skip) <;> (first | done | rfl))
                · skip
                  have c_6 := gl_nle c_6
                  refine lv_iconst (v := (-1)) hx hb dX4_odds_106 (by decide) ?_
                  exact g_ri hx hb hr hlocks dX4_odds_107 (by rw [xOdR] <;> (try rw [← show w = pw10 nn.toNatClampNeg by rw [hw, show i = nn.toNatClampNeg by omega]]) <;> (first | done | rw [if_pos c_1] | rw [if_neg c_1] | rw [if_neg (by rw [c_1]; decide)] | skip) <;> (first | done | rw [if_pos c_2] | rw [if_neg c_2] | rw [if_neg (by rw [c_2]; decide)] | skip) <;> (first | done | rw [if_pos c_3] | rw [if_neg c_3] | rw [if_neg (by rw [c_3]; decide)] | skip) <;> (first | done | rw [if_pos c_4] | rw [if_neg c_4] | rw [if_neg (by rw [c_4]; decide)] | skip) <;> (first | done | rw [if_pos c_5] | rw [if_neg c_5] | rw [if_neg (by rw [c_5]; decide)] | skip) <;> (first | done | rw [if_pos c_6] | rw [if_neg c_6] | rw [if_neg (by rw [c_6]; decide)] | skip) <;> (first | done | rfl))
              · skip
                have c_5 := gl_nle c_5
                have hlt : i < nn.toNatClampNeg := gl_in hq (by omega) (by omega) c_5
                refine lv_iload hx hb dX4_odds_55 (lv_at hl 5 rfl) ?_
                refine lv_bipush (v := 10) hx hb dX4_odds_57 (by decide) ?_
                refine lv_imul hx hb dX4_odds_59 ?_
                refine lv_istore (lv' := [(5, .int (w * 10)), (0, .ref (r 0)), (1, .int s), (2, .int nn), (3, .int x), (4, .int what), (6, .int (nI i))]) hx hb dX4_odds_60 hl (by decide) rfl (fun ls hl => ?_)
                refine lv_iinc (v := nI (i + 1)) (lv' := [(6, .int (nI (i + 1))), (5, .int (w * 10)), (0, .ref (r 0)), (1, .int s), (2, .int nn), (3, .int x), (4, .int what)]) hx hb dX4_odds_62 hl (k := 6) rfl (nI_1 i) (by decide) rfl (fun ls hl => ?_)
                refine lv_goto (tgt := 49) hx hb dX4_odds_65 (by decide) ?_
                exact ih_49 (i + 1) (w * 10) hlt (by rw [hw]; rfl) (by omega) ls (lv_sub hl [2, 3, 4, 5, 6, 1, 0] rfl)
          exact lp_49 ((nn.toNatClampNeg - 0) + 1) 0 1 (Nat.zero_le _) rfl (Nat.lt_succ_self _) ls (lv_sub hl [2, 3, 4, 5, 6, 1, 0] rfl)
        · skip
          have c_4 := bI_0 c_4
          refine lv_iconst (v := (-1)) hx hb dX4_odds_41 (by decide) ?_
          exact g_ri hx hb hr hlocks dX4_odds_42 (by rw [xOdR] <;> (first | done | rw [if_pos c_1] | rw [if_neg c_1] | rw [if_neg (by rw [c_1]; decide)] | skip) <;> (first | done | rw [if_pos c_2] | rw [if_neg c_2] | rw [if_neg (by rw [c_2]; decide)] | skip) <;> (first | done | rw [if_pos c_3] | rw [if_neg c_3] | rw [if_neg (by rw [c_3]; decide)] | skip) <;> (first | done | rw [if_pos c_4] | rw [if_neg c_4] | rw [if_neg (by rw [c_4]; decide)] | skip) <;> (first | done | rfl | (simp only [c_1, c_2, c_3, c_4]; rfl) | (simp [c_1, c_2, c_3, c_4, bI]; done)))

theorem i_X4_hears_X1 : ∀ w ∈ wsX10, w ∈ wsX4_hears := by decide +kernel
theorem i_X4_hears_X4 : ∀ w ∈ wsX40, w ∈ wsX4_hears := by decide +kernel
theorem h_X4_hears : yX4_hears.cls = RX4 ∧ yX4_hears.cls ≠ "java/lang/invoke/MethodHandle" ∧ yX4_hears.cls ≠ "java/lang/invoke/VarHandle" ∧ (parseMethodDescriptor yX4_hears.desc).map (fun d => d.parameters.length) = some 3 := by decide +kernel
set_option maxHeartbeats 4000000 in
set_option maxRecDepth 100000 in
theorem c_X4_hears (lz : Launch) (G : gG) (r b f a d : Nat → Nat) (tr : Int64) (u : HeS) (h : HaS) (k : Nat) (p n th : Int32) (hk : u.size = nI k) (hk6 : k ≤ 6) : gWr lz yX4_hears wsX4_hears 2 G [.ref (r 0), .int p, .int n, .int th] (wRi r b f a d tr ++ wHe f G.2.1 u ++ wHa a G.2.1 h) (wRi r b f a d tr ++ wHe f G.2.1 (xHeS h u k p n th) ++ wHa a G.2.1 h) (some (.int (xHeR h u k p n th))) := by
  refine g_wr (by decide) rfl (Nat.le_of_ble_eq_true rfl) ?_
  intro pz ez sz mz bz tz cz hx hb hr hml hown hts hlocks hK A hAe hP hD hS ls hl
  have hl : lv_has ls 4 [(0, .ref (r 0)), (1, .int p), (2, .int n), (3, .int th)] := hl
  have f19 := hts (.fieldLink RX4 19 "WhisperRing" "hearsay" "LWhisperRing$Hearsay;") (by decide +kernel)
  have f41 := hts (.fieldLink RX4 41 "WhisperRing" "hall" "LWhisperRing$Hall;") (by decide +kernel)
  have f64 := hts (.fieldLink RX4 64 "WhisperRing$Hearsay" "size" "I") (by decide +kernel)
  refine lv_aload_n hx hb dX4_hears_0 rfl (lv_at hl 0 rfl) ?_
  refine va_get (D := G.1) (ci := 4) (v := .ref (a 0)) (C := RX4) (T := TX4) (N := 8) hx hb hts i_X4_hears_X4 hown hK.1 hP 0 rfl rfl 5 (by decide) f41 (fun _ h9 => h9) rfl dX4_hears_1 ?_
  refine lv_iload_n hx hb dX4_hears_4 rfl (lv_at hl 1 rfl) ?_
  refine g_rdV (As := [.int p]) (rest := []) (nL := 4) hx hb hml hown hts (c_X0_hasPlace lz G a h p) gX4_hears_X0_hasPlace rfl h_X0_hasPlace ⟨Nat.le_of_ble_eq_true rfl, Nat.le_of_ble_eq_true rfl⟩ hK (hP.sub [5, 6, 7, 8, 9, 10, 11, 12, 13, 14] rfl) (ci := 0) rfl rfl rfl rfl hl.1 rfl (Nat.le_of_ble_eq_true rfl) ⟨Nat.le_refl _, Nat.le_refl _⟩ dX4_hears_5 ?_
  refine lv_if_eq (tgt := 30) hx hb dX4_hears_8 (by decide) (fun c_1 => ?_) (fun c_1 => ?_)
  · skip
    have c_1 := bI_0 c_1
    refine lv_iconst (v := (-1)) hx hb dX4_hears_30 (by decide) ?_
    have hP : va_P G.1 vwCl (wRi r b f a d tr ++ wHe f G.2.1 (xHeS h u k p n th) ++ wHa a G.2.1 h) sz.heap := by
      rw [xHeS] <;> (first | done | rw [if_pos c_1] | rw [if_neg c_1] | rw [if_neg (by rw [c_1]; decide)] | skip)
      exact hP
    exact g_wi hx hb hr hlocks hAe hP hS dX4_hears_31 (by rw [xHeR] <;> (first | done | rw [if_pos c_1] | rw [if_neg c_1] | rw [if_neg (by rw [c_1]; decide)] | skip) <;> (first | done | rfl | (simp only [c_1]; rfl) | (simp [c_1, bI]; done)))
  · skip
    have c_1 := bI_1 c_1
    refine lv_iload_n hx hb dX4_hears_11 rfl (lv_at hl 2 rfl) ?_
    refine lv_iconst (v := 0) hx hb dX4_hears_12 (by decide) ?_
    refine lv_bipush (v := 99) hx hb dX4_hears_13 (by decide) ?_
    refine g_rdS (As := [.int n, .int 0, .int 99]) (rest := []) (nL := 4) hx hb hml hown hts (c_X4_within lz G n 0 99) gX4_hears_X4_within rfl h_X4_within ⟨Nat.le_of_ble_eq_true rfl, Nat.le_of_ble_eq_true rfl⟩ hK gP_nil rfl hl.1 rfl (Nat.le_of_ble_eq_true rfl) ⟨Nat.le_refl _, Nat.le_refl _⟩ dX4_hears_15 ?_
    refine lv_if_eq (tgt := 30) hx hb dX4_hears_18 (by decide) (fun c_2 => ?_) (fun c_2 => ?_)
    · skip
      have c_2 := bI_0 c_2
      refine lv_iconst (v := (-1)) hx hb dX4_hears_30 (by decide) ?_
      have hP : va_P G.1 vwCl (wRi r b f a d tr ++ wHe f G.2.1 (xHeS h u k p n th) ++ wHa a G.2.1 h) sz.heap := by
        rw [xHeS] <;> (first | done | rw [if_pos c_1] | rw [if_neg c_1] | rw [if_neg (by rw [c_1]; decide)] | skip) <;> (first | done | rw [if_pos c_2] | rw [if_neg c_2] | rw [if_neg (by rw [c_2]; decide)] | skip)
        exact hP
      exact g_wi hx hb hr hlocks hAe hP hS dX4_hears_31 (by rw [xHeR] <;> (first | done | rw [if_pos c_1] | rw [if_neg c_1] | rw [if_neg (by rw [c_1]; decide)] | skip) <;> (first | done | rw [if_pos c_2] | rw [if_neg c_2] | rw [if_neg (by rw [c_2]; decide)] | skip) <;> (first | done | rfl | (simp only [c_1, c_2]; rfl) | (simp [c_1, c_2, bI]; done)))
    · skip
      have c_2 := bI_1 c_2
      refine lv_iload_n hx hb dX4_hears_21 rfl (lv_at hl 3 rfl) ?_
      refine lv_iconst (v := 0) hx hb dX4_hears_22 (by decide) ?_
      refine lv_iconst (v := 1) hx hb dX4_hears_23 (by decide) ?_
      refine g_rdS (As := [.int th, .int 0, .int 1]) (rest := []) (nL := 4) hx hb hml hown hts (c_X4_within lz G th 0 1) gX4_hears_X4_within rfl h_X4_within ⟨Nat.le_of_ble_eq_true rfl, Nat.le_of_ble_eq_true rfl⟩ hK gP_nil rfl hl.1 rfl (Nat.le_of_ble_eq_true rfl) ⟨Nat.le_refl _, Nat.le_refl _⟩ dX4_hears_24 ?_
      refine lv_if_ne (tgt := 32) hx hb dX4_hears_27 (by decide) (fun c_3 => ?_) (fun c_3 => ?_)
      · skip
        have c_3 := bI_1 c_3
        refine lv_aload_n hx hb dX4_hears_32 rfl (lv_at hl 0 rfl) ?_
        refine va_get (D := G.1) (ci := 4) (v := .ref (f 0)) (C := RX4) (T := TX4) (N := 8) hx hb hts i_X4_hears_X4 hown hK.1 hP 0 rfl rfl 1 (by decide) f19 (fun _ h9 => h9) rfl dX4_hears_33 ?_
        refine lv_iload_n hx hb dX4_hears_36 rfl (lv_at hl 1 rfl) ?_
        refine lv_iload_n hx hb dX4_hears_37 rfl (lv_at hl 2 rfl) ?_
        refine lv_iload_n hx hb dX4_hears_38 rfl (lv_at hl 3 rfl) ?_
        refine g_wrV (As := [.int p, .int n, .int th]) (rest := []) (nL := 4) hx hb hml hown hts (c_X1_add lz G f u k p n th hk hk6) gX4_hears_X1_add rfl h_X1_add ⟨Nat.le_of_ble_eq_true rfl, Nat.le_of_ble_eq_true rfl⟩ hK hP hD hS [1, 2, 3, 4] rfl rfl rfl (ws1 := wRi r b f a d tr ++ wHe f G.2.1 (heAdd u k p n th) ++ wHa a G.2.1 h) rfl [r 0, f 0, f 1, f 2, f 3, a 0, a 1, a 2, a 3, a 4, a 5, a 6, a 7, a 8, a 9] rfl rfl (ci := 1) rfl rfl rfl rfl hl.1 rfl (Nat.le_of_ble_eq_true rfl) ⟨Nat.le_refl _, Nat.le_refl _⟩ dX4_hears_39 (fun H locs hP hD hS => ?_)
        refine lv_if_eq (tgt := 55) hx hb dX4_hears_42 (by decide) (fun c_4 => ?_) (fun c_4 => ?_)
        · skip
          have c_4 := bI_0 c_4
          refine lv_bipush (v := (-3)) hx hb dX4_hears_55 (by decide) ?_
          have hP : va_P G.1 vwCl (wRi r b f a d tr ++ wHe f G.2.1 (xHeS h u k p n th) ++ wHa a G.2.1 h) H := by
            rw [xHeS] <;> (first | done | rw [if_pos c_1] | rw [if_neg c_1] | rw [if_neg (by rw [c_1]; decide)] | skip) <;> (first | done | rw [if_pos c_2] | rw [if_neg c_2] | rw [if_neg (by rw [c_2]; decide)] | skip) <;> (first | done | rw [if_pos c_3] | rw [if_neg c_3] | rw [if_neg (by rw [c_3]; decide)] | skip) <;> (first | done | rw [if_pos c_4] | rw [if_neg c_4] | rw [if_neg (by rw [c_4]; decide)] | skip)
            exact hP
          exact g_wi hx hb hr hlocks hAe hP hS dX4_hears_57 (by rw [xHeR] <;> (first | done | rw [if_pos c_1] | rw [if_neg c_1] | rw [if_neg (by rw [c_1]; decide)] | skip) <;> (first | done | rw [if_pos c_2] | rw [if_neg c_2] | rw [if_neg (by rw [c_2]; decide)] | skip) <;> (first | done | rw [if_pos c_3] | rw [if_neg c_3] | rw [if_neg (by rw [c_3]; decide)] | skip) <;> (first | done | rw [if_pos c_4] | rw [if_neg c_4] | rw [if_neg (by rw [c_4]; decide)] | skip) <;> (first | done | rfl | (simp only [c_1, c_2, c_3, c_4]; rfl) | (simp [c_1, c_2, c_3, c_4, bI]; done)))
        · skip
          have c_4 := bI_1 c_4
          refine lv_aload_n hx hb dX4_hears_45 rfl (lv_at hl 0 rfl) ?_
          refine va_get (D := G.1) (ci := 4) (v := .ref (f 0)) (C := RX4) (T := TX4) (N := 8) hx hb hts i_X4_hears_X4 hown hK.1 hP 0 rfl rfl 1 (by decide) f19 (fun _ h9 => h9) rfl dX4_hears_46 ?_
          refine va_get (D := G.1) (ci := 1) (v := .int ((heAdd u k p n th).size)) (C := RX1) (T := TX1) (N := 4) hx hb hts i_X4_hears_X1 hown hK.1 hP 1 rfl rfl 0 (by decide) f64 (fun _ h9 => h9) rfl dX4_hears_49 ?_
          refine lv_goto (tgt := 57) hx hb dX4_hears_52 (by decide) ?_
          have hP : va_P G.1 vwCl (wRi r b f a d tr ++ wHe f G.2.1 (xHeS h u k p n th) ++ wHa a G.2.1 h) H := by
            rw [xHeS] <;> (first | done | rw [if_pos c_1] | rw [if_neg c_1] | rw [if_neg (by rw [c_1]; decide)] | skip) <;> (first | done | rw [if_pos c_2] | rw [if_neg c_2] | rw [if_neg (by rw [c_2]; decide)] | skip) <;> (first | done | rw [if_pos c_3] | rw [if_neg c_3] | rw [if_neg (by rw [c_3]; decide)] | skip) <;> (first | done | rw [if_pos c_4] | rw [if_neg c_4] | rw [if_neg (by rw [c_4]; decide)] | skip)
            exact hP
          exact g_wi hx hb hr hlocks hAe hP hS dX4_hears_57 (by rw [xHeR] <;> (first | done | rw [if_pos c_1] | rw [if_neg c_1] | rw [if_neg (by rw [c_1]; decide)] | skip) <;> (first | done | rw [if_pos c_2] | rw [if_neg c_2] | rw [if_neg (by rw [c_2]; decide)] | skip) <;> (first | done | rw [if_pos c_3] | rw [if_neg c_3] | rw [if_neg (by rw [c_3]; decide)] | skip) <;> (first | done | rw [if_pos c_4] | rw [if_neg c_4] | rw [if_neg (by rw [c_4]; decide)] | skip) <;> (first | done | rfl | (simp only [c_1, c_2, c_3, c_4]; rfl) | (simp [c_1, c_2, c_3, c_4, bI]; done)))
      · skip
        have c_3 := bI_0 c_3
        refine lv_iconst (v := (-1)) hx hb dX4_hears_30 (by decide) ?_
        have hP : va_P G.1 vwCl (wRi r b f a d tr ++ wHe f G.2.1 (xHeS h u k p n th) ++ wHa a G.2.1 h) sz.heap := by
          rw [xHeS] <;> (first | done | rw [if_pos c_1] | rw [if_neg c_1] | rw [if_neg (by rw [c_1]; decide)] | skip) <;> (first | done | rw [if_pos c_2] | rw [if_neg c_2] | rw [if_neg (by rw [c_2]; decide)] | skip) <;> (first | done | rw [if_pos c_3] | rw [if_neg c_3] | rw [if_neg (by rw [c_3]; decide)] | skip)
          exact hP
        exact g_wi hx hb hr hlocks hAe hP hS dX4_hears_31 (by rw [xHeR] <;> (first | done | rw [if_pos c_1] | rw [if_neg c_1] | rw [if_neg (by rw [c_1]; decide)] | skip) <;> (first | done | rw [if_pos c_2] | rw [if_neg c_2] | rw [if_neg (by rw [c_2]; decide)] | skip) <;> (first | done | rw [if_pos c_3] | rw [if_neg c_3] | rw [if_neg (by rw [c_3]; decide)] | skip) <;> (first | done | rfl | (simp only [c_1, c_2, c_3]; rfl) | (simp [c_1, c_2, c_3, bI]; done)))

theorem i_X4_forget_X1 : ∀ w ∈ wsX10, w ∈ wsX4_forget := by decide +kernel
theorem i_X4_forget_X4 : ∀ w ∈ wsX40, w ∈ wsX4_forget := by decide +kernel
theorem h_X4_forget : yX4_forget.cls = RX4 ∧ yX4_forget.cls ≠ "java/lang/invoke/MethodHandle" ∧ yX4_forget.cls ≠ "java/lang/invoke/VarHandle" ∧ (parseMethodDescriptor yX4_forget.desc).map (fun d => d.parameters.length) = some 0 := by decide +kernel
set_option maxHeartbeats 4000000 in
set_option maxRecDepth 100000 in
theorem c_X4_forget (lz : Launch) (G : gG) (r b f a d : Nat → Nat) (tr : Int64) (u : HeS)  : gWr lz yX4_forget wsX4_forget 0 G [.ref (r 0)] (wRi r b f a d tr ++ wHe f G.2.1 u) (wRi r b f a d tr ++ wHe f G.2.1 (0, u.ats, u.beh, u.the)) (some (.int u.size)) := by
  refine g_wr (by decide) rfl (Nat.le_of_ble_eq_true rfl) ?_
  intro pz ez sz mz bz tz cz hx hb hr hml hown hts hlocks hK A hAe hP hD hS ls hl
  have hl : lv_has ls 2 [(0, .ref (r 0))] := hl
  have f19 := hts (.fieldLink RX4 19 "WhisperRing" "hearsay" "LWhisperRing$Hearsay;") (by decide +kernel)
  have f64 := hts (.fieldLink RX4 64 "WhisperRing$Hearsay" "size" "I") (by decide +kernel)
  refine lv_aload_n hx hb dX4_forget_0 rfl (lv_at hl 0 rfl) ?_
  refine va_get (D := G.1) (ci := 4) (v := .ref (f 0)) (C := RX4) (T := TX4) (N := 8) hx hb hts i_X4_forget_X4 hown hK.1 hP 0 rfl rfl 1 (by decide) f19 (fun _ h9 => h9) rfl dX4_forget_1 ?_
  refine va_get (D := G.1) (ci := 1) (v := .int u.size) (C := RX1) (T := TX1) (N := 4) hx hb hts i_X4_forget_X1 hown hK.1 hP 1 rfl rfl 0 (by decide) f64 (fun _ h9 => h9) rfl dX4_forget_4 ?_
  refine lv_istore_n (lv' := [(1, .int u.size), (0, .ref (r 0))]) hx hb dX4_forget_7 rfl hl (by decide) rfl (fun ls hl => ?_)
  refine lv_aload_n hx hb dX4_forget_8 rfl (lv_at hl 1 rfl) ?_
  refine va_get (D := G.1) (ci := 4) (v := .ref (f 0)) (C := RX4) (T := TX4) (N := 8) hx hb hts i_X4_forget_X4 hown hK.1 hP 0 rfl rfl 1 (by decide) f19 (fun _ h9 => h9) rfl dX4_forget_9 ?_
  refine lv_iconst (v := 0) hx hb dX4_forget_12 (by decide) ?_
  refine va_put (D := G.1) (ci := 1) (v := .int 0) (ty := .int) (C := RX1) (T := TX1) (N := 4) hx hb hts i_X4_forget_X1 tyX1 tyX1_ok nmX1 hown hK.1 hP hD hS 1 rfl rfl 0 (by decide) f64 (fun _ h9 => h9) rfl (by decide +kernel) rfl rfl (Nat.le_of_ble_eq_true rfl) dX4_forget_13 (fun H locs hP hD hS => ?_)
  have hP : va_P G.1 vwCl (wRi r b f a d tr ++ wHe f G.2.1 (0, u.ats, u.beh, u.the)) H := hP
  have hD : va_D A (wRi r b f a d tr ++ wHe f G.2.1 (0, u.ats, u.beh, u.the)) := hD
  refine lv_iload_n hx hb dX4_forget_16 rfl (lv_at hl 0 rfl) ?_
  exact g_wi hx hb hr hlocks hAe hP hS dX4_forget_17 rfl

theorem i_X4_guessCount_X0 : ∀ w ∈ wsX00, w ∈ wsX4_guessCount := by decide +kernel
theorem i_X4_guessCount_X4 : ∀ w ∈ wsX40, w ∈ wsX4_guessCount := by decide +kernel
theorem h_X4_guessCount : yX4_guessCount.cls = RX4 ∧ yX4_guessCount.cls ≠ "java/lang/invoke/MethodHandle" ∧ yX4_guessCount.cls ≠ "java/lang/invoke/VarHandle" ∧ (parseMethodDescriptor yX4_guessCount.desc).map (fun d => d.parameters.length) = some 0 := by decide +kernel
set_option maxHeartbeats 4000000 in
set_option maxRecDepth 100000 in
theorem c_X4_guessCount (lz : Launch) (G : gG) (r b f a d : Nat → Nat) (tr : Int64) (u : HeS) (h : HaS) (k N : Nat) (hk : u.size = nI k) (hk6 : k ≤ 6) (hN : h.pl = nI N) (hN24 : N ≤ 24) : gRd lz yX4_guessCount wsX4_guessCount 4 G [.ref (r 0)] (wRi r b f a d tr ++ wHe f G.2.1 u ++ wHa a G.2.1 h) (nI (cntOf (fun g => guFit h u k (nI g)) (N * 12))) := by
  refine g_rd (by decide) rfl (Nat.le_of_ble_eq_true rfl) ?_
  intro pz ez sz mz bz tz cz hx hb hr hml hown hts hlocks hP hK ls hl
  have hl : lv_has ls 3 [(0, .ref (r 0))] := hl
  have f19 := hts (.fieldLink RX4 19 "WhisperRing" "hearsay" "LWhisperRing$Hearsay;") (by decide +kernel)
  have f216 := hts (.fieldLink RX4 216 "WhisperRing$Hall" "places" "I") (by decide +kernel)
  have f41 := hts (.fieldLink RX4 41 "WhisperRing" "hall" "LWhisperRing$Hall;") (by decide +kernel)
  refine lv_iconst (v := 0) hx hb dX4_guessCount_0 (by decide) ?_
  refine lv_istore_n (lv' := [(1, .int 0), (0, .ref (r 0))]) hx hb dX4_guessCount_1 rfl hl (by decide) rfl (fun ls hl => ?_)
  refine lv_iconst (v := 0) hx hb dX4_guessCount_2 (by decide) ?_
  refine lv_istore_n (lv' := [(2, .int 0), (1, .int 0), (0, .ref (r 0))]) hx hb dX4_guessCount_3 rfl hl (by decide) rfl (fun ls hl => ?_)
  have lp_4 : ∀ (fu_4 : Nat) (i : Nat) (x : Nat), (i ≤ N * 12) → (x = cntOf (fun g => guFit h u k (nI g)) i) → N * 12 - i < fu_4 → ∀ ls : Array Slot, lv_has ls 3 [(0, .ref (r 0)), (1, .int (nI x)), (2, .int (nI i))] → W pz lz ez (gRm 4) sz mz ([.ref (r 0)] : List Value).toArray bz tz cz sz.heap [] 0 0 (MQ bz (vp_Si (fun xx_ => xx_ = nI (cntOf (fun g => guFit h u k (nI g)) (N * 12)))) ([.ref (r 0)] : List Value).toArray sz 0 0 (fun _ => False)) (F0 mz 4 ls []) := by
    intro fu_4
    induction fu_4 with
    | zero =>
      intro i x hi hac hf_4
      exact absurd hf_4 (Nat.not_lt_zero _)
    | succ fu_4 ih_4 =>
      intro i x hi hac hf_4 ls hl
      refine lv_iload_n hx hb dX4_guessCount_4 rfl (lv_at hl 2 rfl) ?_
      refine lv_aload_n hx hb dX4_guessCount_5 rfl (lv_at hl 0 rfl) ?_
      refine va_get (D := G.1) (ci := 4) (v := .ref (a 0)) (C := RX4) (T := TX4) (N := 8) hx hb hts i_X4_guessCount_X4 hown hK.1 hP 0 rfl rfl 5 (by decide) f41 (fun _ h9 => h9) rfl dX4_guessCount_6 ?_
      refine va_get (D := G.1) (ci := 0) (v := .int h.pl) (C := RX0) (T := TX0) (N := 6) hx hb hts i_X4_guessCount_X0 hown hK.1 hP 5 rfl rfl 0 (by decide) f216 (fun _ h9 => h9) rfl dX4_guessCount_9 ?_
      refine lv_bipush (v := 12) hx hb dX4_guessCount_12 (by decide) ?_
      refine lv_imul hx hb dX4_guessCount_14 ?_
      refine g_top (y := nI (N * 12)) (by rw [hN]; exact pk_mul N 12) ?_
      refine lv_icmp_ge (tgt := 42) hx hb dX4_guessCount_15 (by decide) (fun c_1 => ?_) (fun c_1 => ?_)
      · skip
        have c_1 := gl_le c_1
        have hx2 : N * 12 ≤ i := gl_ex rfl (by omega) (by omega) c_1
        refine lv_iload_n hx hb dX4_guessCount_42 rfl (lv_at hl 1 rfl) ?_
        exact g_ri hx hb hr hlocks dX4_guessCount_43 (by rw [hac, show i = N * 12 by omega])
      · skip
        have c_1 := gl_nle c_1
        have hlt : i < N * 12 := gl_in rfl (by omega) (by omega) c_1
        refine lv_aload_n hx hb dX4_guessCount_18 rfl (lv_at hl 0 rfl) ?_
        refine va_get (D := G.1) (ci := 4) (v := .ref (f 0)) (C := RX4) (T := TX4) (N := 8) hx hb hts i_X4_guessCount_X4 hown hK.1 hP 0 rfl rfl 1 (by decide) f19 (fun _ h9 => h9) rfl dX4_guessCount_19 ?_
        refine lv_aload_n hx hb dX4_guessCount_22 rfl (lv_at hl 0 rfl) ?_
        refine va_get (D := G.1) (ci := 4) (v := .ref (a 0)) (C := RX4) (T := TX4) (N := 8) hx hb hts i_X4_guessCount_X4 hown hK.1 hP 0 rfl rfl 5 (by decide) f41 (fun _ h9 => h9) rfl dX4_guessCount_23 ?_
        refine lv_iload_n hx hb dX4_guessCount_26 rfl (lv_at hl 2 rfl) ?_
        refine g_rdV (As := [.ref (a 0), .int (nI i)]) (rest := []) (nL := 3) hx hb hml hown hts (c_X1_fits lz G a f h u k (nI i) hk hk6) gX4_guessCount_X1_fits rfl h_X1_fits ⟨Nat.le_of_ble_eq_true rfl, Nat.le_of_ble_eq_true rfl⟩ hK (hP.sub [1, 2, 3, 4, 5, 6, 7, 8, 9, 10, 11, 12, 13, 14] rfl) (ci := 1) rfl rfl rfl rfl hl.1 rfl (Nat.le_of_ble_eq_true rfl) ⟨Nat.le_refl _, Nat.le_refl _⟩ dX4_guessCount_27 ?_
        refine lv_if_eq (tgt := 36) hx hb dX4_guessCount_30 (by decide) (fun c_2 => ?_) (fun c_2 => ?_)
        · skip
          have c_2 := bI_0 c_2
          refine lv_iinc (v := nI (i + 1)) (lv' := [(2, .int (nI (i + 1))), (0, .ref (r 0)), (1, .int (nI x))]) hx hb dX4_guessCount_36 hl (k := 2) rfl (nI_1 i) (by decide) rfl (fun ls hl => ?_)
          refine lv_goto (tgt := 4) hx hb dX4_guessCount_39 (by decide) ?_
          exact ih_4 (i + 1) x hlt (cO_n hac (by simp [c_2])) (by omega) ls (lv_sub hl [1, 2, 0] rfl)
        · skip
          have c_2 := bI_1 c_2
          refine lv_iinc (v := nI (x + 1)) (lv' := [(1, .int (nI (x + 1))), (0, .ref (r 0)), (2, .int (nI i))]) hx hb dX4_guessCount_33 hl (k := 1) rfl (nI_1 x) (by decide) rfl (fun ls hl => ?_)
          refine lv_iinc (v := nI (i + 1)) (lv' := [(2, .int (nI (i + 1))), (1, .int (nI (x + 1))), (0, .ref (r 0))]) hx hb dX4_guessCount_36 hl (k := 2) rfl (nI_1 i) (by decide) rfl (fun ls hl => ?_)
          refine lv_goto (tgt := 4) hx hb dX4_guessCount_39 (by decide) ?_
          exact ih_4 (i + 1) (x + 1) hlt (cO_y hac (by simp [c_2])) (by omega) ls (lv_sub hl [2, 1, 0] rfl)
  exact lp_4 ((N * 12 - 0) + 1) 0 0 (Nat.zero_le _) rfl (Nat.lt_succ_self _) ls (lv_sub hl [2, 1, 0] rfl)

theorem i_X4_firstGuess_X0 : ∀ w ∈ wsX00, w ∈ wsX4_firstGuess := by decide +kernel
theorem i_X4_firstGuess_X4 : ∀ w ∈ wsX40, w ∈ wsX4_firstGuess := by decide +kernel
theorem h_X4_firstGuess : yX4_firstGuess.cls = RX4 ∧ yX4_firstGuess.cls ≠ "java/lang/invoke/MethodHandle" ∧ yX4_firstGuess.cls ≠ "java/lang/invoke/VarHandle" ∧ (parseMethodDescriptor yX4_firstGuess.desc).map (fun d => d.parameters.length) = some 0 := by decide +kernel
set_option maxHeartbeats 4000000 in
set_option maxRecDepth 100000 in
theorem c_X4_firstGuess (lz : Launch) (G : gG) (r b f a d : Nat → Nat) (tr : Int64) (u : HeS) (h : HaS) (k N : Nat) (hk : u.size = nI k) (hk6 : k ≤ 6) (hN : h.pl = nI N) (hN24 : N ≤ 24) : gRd lz yX4_firstGuess wsX4_firstGuess 4 G [.ref (r 0)] (wRi r b f a d tr ++ wHe f G.2.1 u ++ wHa a G.2.1 h) (guN (firstF (fun g => guFit h u k (nI g)) (N * 12) 0)) := by
  refine g_rd (by decide) rfl (Nat.le_of_ble_eq_true rfl) ?_
  intro pz ez sz mz bz tz cz hx hb hr hml hown hts hlocks hP hK ls hl
  have hl : lv_has ls 2 [(0, .ref (r 0))] := hl
  have f19 := hts (.fieldLink RX4 19 "WhisperRing" "hearsay" "LWhisperRing$Hearsay;") (by decide +kernel)
  have f216 := hts (.fieldLink RX4 216 "WhisperRing$Hall" "places" "I") (by decide +kernel)
  have f41 := hts (.fieldLink RX4 41 "WhisperRing" "hall" "LWhisperRing$Hall;") (by decide +kernel)
  refine lv_iconst (v := 0) hx hb dX4_firstGuess_0 (by decide) ?_
  refine lv_istore_n (lv' := [(1, .int 0), (0, .ref (r 0))]) hx hb dX4_firstGuess_1 rfl hl (by decide) rfl (fun ls hl => ?_)
  have lp_2 : ∀ (fu_2 : Nat) (i : Nat), (i ≤ (N * 12)) → (firstF (fun g => guFit h u k (nI g)) (N * 12) 0 = firstF (fun g => guFit h u k (nI g)) ((N * 12) - i) i) → (N * 12) - i < fu_2 → ∀ ls : Array Slot, lv_has ls 2 [(0, .ref (r 0)), (1, .int (nI i))] → W pz lz ez (gRm 4) sz mz ([.ref (r 0)] : List Value).toArray bz tz cz sz.heap [] 0 0 (MQ bz (vp_Si (fun xx_ => xx_ = guN (firstF (fun g => guFit h u k (nI g)) (N * 12) 0))) ([.ref (r 0)] : List Value).toArray sz 0 0 (fun _ => False)) (F0 mz 2 ls []) := by
    intro fu_2
    induction fu_2 with
    | zero =>
      intro i hi he hf_2
      exact absurd hf_2 (Nat.not_lt_zero _)
    | succ fu_2 ih_2 =>
      intro i hi he hf_2 ls hl
      refine lv_iload_n hx hb dX4_firstGuess_2 rfl (lv_at hl 1 rfl) ?_
      refine lv_aload_n hx hb dX4_firstGuess_3 rfl (lv_at hl 0 rfl) ?_
      refine va_get (D := G.1) (ci := 4) (v := .ref (a 0)) (C := RX4) (T := TX4) (N := 8) hx hb hts i_X4_firstGuess_X4 hown hK.1 hP 0 rfl rfl 5 (by decide) f41 (fun _ h9 => h9) rfl dX4_firstGuess_4 ?_
      refine va_get (D := G.1) (ci := 0) (v := .int h.pl) (C := RX0) (T := TX0) (N := 6) hx hb hts i_X4_firstGuess_X0 hown hK.1 hP 5 rfl rfl 0 (by decide) f216 (fun _ h9 => h9) rfl dX4_firstGuess_7 ?_
      refine lv_bipush (v := 12) hx hb dX4_firstGuess_10 (by decide) ?_
      refine lv_imul hx hb dX4_firstGuess_12 ?_
      refine g_top (y := nI (N * 12)) (by rw [hN]; exact pk_mul N 12) ?_
      refine lv_icmp_ge (tgt := 58) hx hb dX4_firstGuess_13 (by decide) (fun c_1 => ?_) (fun c_1 => ?_)
      · skip
        have c_1 := gl_le c_1
        have hx2 : N * 12 ≤ i := gl_ex rfl (by omega) (by omega) c_1
        refine lv_bipush (v := (-9)) hx hb dX4_firstGuess_58 (by decide) ?_
        exact g_ri hx hb hr hlocks dX4_firstGuess_60 (by rw [fF_e he hx2]; rfl)
      · skip
        have c_1 := gl_nle c_1
        have hlt : i < N * 12 := gl_in rfl (by omega) (by omega) c_1
        refine lv_aload_n hx hb dX4_firstGuess_16 rfl (lv_at hl 0 rfl) ?_
        refine va_get (D := G.1) (ci := 4) (v := .ref (f 0)) (C := RX4) (T := TX4) (N := 8) hx hb hts i_X4_firstGuess_X4 hown hK.1 hP 0 rfl rfl 1 (by decide) f19 (fun _ h9 => h9) rfl dX4_firstGuess_17 ?_
        refine lv_aload_n hx hb dX4_firstGuess_20 rfl (lv_at hl 0 rfl) ?_
        refine va_get (D := G.1) (ci := 4) (v := .ref (a 0)) (C := RX4) (T := TX4) (N := 8) hx hb hts i_X4_firstGuess_X4 hown hK.1 hP 0 rfl rfl 5 (by decide) f41 (fun _ h9 => h9) rfl dX4_firstGuess_21 ?_
        refine lv_iload_n hx hb dX4_firstGuess_24 rfl (lv_at hl 1 rfl) ?_
        refine g_rdV (As := [.ref (a 0), .int (nI i)]) (rest := []) (nL := 2) hx hb hml hown hts (c_X1_fits lz G a f h u k (nI i) hk hk6) gX4_firstGuess_X1_fits rfl h_X1_fits ⟨Nat.le_of_ble_eq_true rfl, Nat.le_of_ble_eq_true rfl⟩ hK (hP.sub [1, 2, 3, 4, 5, 6, 7, 8, 9, 10, 11, 12, 13, 14] rfl) (ci := 1) rfl rfl rfl rfl hl.1 rfl (Nat.le_of_ble_eq_true rfl) ⟨Nat.le_refl _, Nat.le_refl _⟩ dX4_firstGuess_25 ?_
        refine lv_if_eq (tgt := 52) hx hb dX4_firstGuess_28 (by decide) (fun c_2 => ?_) (fun c_2 => ?_)
        · skip
          have c_2 := bI_0 c_2
          refine lv_iinc (v := nI (i + 1)) (lv' := [(1, .int (nI (i + 1))), (0, .ref (r 0))]) hx hb dX4_firstGuess_52 hl (k := 1) rfl (nI_1 i) (by decide) rfl (fun ls hl => ?_)
          refine lv_goto (tgt := 2) hx hb dX4_firstGuess_55 (by decide) ?_
          exact ih_2 (i + 1) hlt (fF_n he hlt (by simp [c_2])) (by omega) ls (lv_sub hl [1, 0] rfl)
        · skip
          have c_2 := bI_1 c_2
          refine lv_bipush (v := 100) hx hb dX4_firstGuess_31 (by decide) ?_
          refine lv_iload_n hx hb dX4_firstGuess_33 rfl (lv_at hl 1 rfl) ?_
          refine g_rdS (As := [.int (nI i)]) (rest := [.int 100]) (nL := 2) hx hb hml hown hts (c_X1_placeIn lz G (nI i)) gX4_firstGuess_X1_placeIn rfl h_X1_placeIn ⟨Nat.le_of_ble_eq_true rfl, Nat.le_of_ble_eq_true rfl⟩ hK gP_nil rfl hl.1 rfl (Nat.le_of_ble_eq_true rfl) ⟨Nat.le_refl _, Nat.le_refl _⟩ dX4_firstGuess_34 ?_
          refine lv_imul hx hb dX4_firstGuess_37 ?_
          refine lv_bipush (v := 10) hx hb dX4_firstGuess_38 (by decide) ?_
          refine lv_iload_n hx hb dX4_firstGuess_40 rfl (lv_at hl 1 rfl) ?_
          refine g_rdS (As := [.int (nI i)]) (rest := [.int 10, .int (100 * (guP (nI i)))]) (nL := 2) hx hb hml hown hts (c_X1_speedIn lz G (nI i)) gX4_firstGuess_X1_speedIn rfl h_X1_speedIn ⟨Nat.le_of_ble_eq_true rfl, Nat.le_of_ble_eq_true rfl⟩ hK gP_nil rfl hl.1 rfl (Nat.le_of_ble_eq_true rfl) ⟨Nat.le_refl _, Nat.le_refl _⟩ dX4_firstGuess_41 ?_
          refine lv_imul hx hb dX4_firstGuess_44 ?_
          refine lv_iadd hx hb dX4_firstGuess_45 ?_
          refine lv_iload_n hx hb dX4_firstGuess_46 rfl (lv_at hl 1 rfl) ?_
          refine g_rdS (As := [.int (nI i)]) (rest := [.int ((100 * (guP (nI i))) + (10 * (guS (nI i))))]) (nL := 2) hx hb hml hown hts (c_X1_wayIn lz G (nI i)) gX4_firstGuess_X1_wayIn rfl h_X1_wayIn ⟨Nat.le_of_ble_eq_true rfl, Nat.le_of_ble_eq_true rfl⟩ hK gP_nil rfl hl.1 rfl (Nat.le_of_ble_eq_true rfl) ⟨Nat.le_refl _, Nat.le_refl _⟩ dX4_firstGuess_47 ?_
          refine lv_iadd hx hb dX4_firstGuess_50 ?_
          exact g_ri hx hb hr hlocks dX4_firstGuess_51 (by rw [fF_y he hlt (by simp [c_2])]; rfl)
  exact lp_2 (((N * 12) - 0) + 1) 0 (Nat.zero_le _) rfl (Nat.lt_succ_self _) ls (lv_sub hl [1, 0] rfl)

theorem h_X4_guesses : yX4_guesses.cls = RX4 ∧ yX4_guesses.cls ≠ "java/lang/invoke/MethodHandle" ∧ yX4_guesses.cls ≠ "java/lang/invoke/VarHandle" ∧ (parseMethodDescriptor yX4_guesses.desc).map (fun d => d.parameters.length) = some 1 := by decide +kernel
set_option maxHeartbeats 4000000 in
set_option maxRecDepth 100000 in
theorem c_X4_guesses (lz : Launch) (G : gG) (r b f a d : Nat → Nat) (tr : Int64) (u : HeS) (h : HaS) (k N : Nat) (what : Int32) (hk : u.size = nI k) (hk6 : k ≤ 6) (hN : h.pl = nI N) (hN24 : N ≤ 24) : gRd lz yX4_guesses wsX4_guesses 5 G [.ref (r 0), .int what] (wRi r b f a d tr ++ wHe f G.2.1 u ++ wHa a G.2.1 h) (xGuR h u k N what) := by
  refine g_rd (by decide) rfl (Nat.le_of_ble_eq_true rfl) ?_
  intro pz ez sz mz bz tz cz hx hb hr hml hown hts hlocks hP hK ls hl
  have hl : lv_has ls 2 [(0, .ref (r 0)), (1, .int what)] := hl
  refine lv_iload_n hx hb dX4_guesses_0 rfl (lv_at hl 1 rfl) ?_
  by_cases k_1 : what = 0
  · refine lv_lookup (tgt := 28) (off := 27) hx hb dX4_guesses_1 (by decide) (by rw [k_1] <;> rfl) (by decide) ?_
    refine lv_aload_n hx hb dX4_guesses_28 rfl (lv_at hl 0 rfl) ?_
    refine g_rdV (As := []) (rest := []) (nL := 2) hx hb hml hown hts (c_X4_guessCount lz G r b f a d tr u h k N hk hk6 hN hN24) gX4_guesses_X4_guessCount rfl h_X4_guessCount ⟨Nat.le_of_ble_eq_true rfl, Nat.le_of_ble_eq_true rfl⟩ hK hP (ci := 4) rfl rfl rfl rfl hl.1 rfl (Nat.le_of_ble_eq_true rfl) ⟨Nat.le_refl _, Nat.le_refl _⟩ dX4_guesses_29 ?_
    exact g_ri hx hb hr hlocks dX4_guesses_32 (by rw [xGuR] <;> (first | done | rw [if_pos k_1] | rw [if_neg k_1] | rw [if_neg (by rw [k_1]; decide)] | skip) <;> (first | done | rfl | (simp only [k_1]; rfl) | (simp [k_1, bI]; done)))
  · skip
    by_cases k_2 : what = 1
    · refine lv_lookup (tgt := 33) (off := 32) hx hb dX4_guesses_1 (by decide) (by rw [k_2] <;> rfl) (by decide) ?_
      refine lv_aload_n hx hb dX4_guesses_33 rfl (lv_at hl 0 rfl) ?_
      refine g_rdV (As := []) (rest := []) (nL := 2) hx hb hml hown hts (c_X4_firstGuess lz G r b f a d tr u h k N hk hk6 hN hN24) gX4_guesses_X4_firstGuess rfl h_X4_firstGuess ⟨Nat.le_of_ble_eq_true rfl, Nat.le_of_ble_eq_true rfl⟩ hK hP (ci := 4) rfl rfl rfl rfl hl.1 rfl (Nat.le_of_ble_eq_true rfl) ⟨Nat.le_refl _, Nat.le_refl _⟩ dX4_guesses_34 ?_
      exact g_ri hx hb hr hlocks dX4_guesses_37 (by rw [xGuR] <;> (first | done | rw [if_pos k_1] | rw [if_neg k_1] | rw [if_neg (by rw [k_1]; decide)] | skip) <;> (first | done | rw [if_pos k_2] | rw [if_neg k_2] | rw [if_neg (by rw [k_2]; decide)] | skip) <;> (first | done | rfl | (simp only [k_1, k_2]; rfl) | (simp [k_1, k_2, bI]; done)))
    · skip
      refine lv_lookup (tgt := 38) (off := 37) hx hb dX4_guesses_1 (by decide) (by rw [lv_osw k_1 (a := 0) (by decide), lv_osw k_2 (a := 1) (by decide)] <;> rfl) (by decide) ?_
      refine lv_iconst (v := (-1)) hx hb dX4_guesses_38 (by decide) ?_
      exact g_ri hx hb hr hlocks dX4_guesses_39 (by rw [xGuR] <;> (first | done | rw [if_pos k_1] | rw [if_neg k_1] | rw [if_neg (by rw [k_1]; decide)] | skip) <;> (first | done | rw [if_pos k_2] | rw [if_neg k_2] | rw [if_neg (by rw [k_2]; decide)] | skip) <;> (first | done | rfl | (simp only [k_1, k_2]; rfl) | (simp [k_1, k_2, bI]; done)))

theorem i_X4_sortGuesses_X0 : ∀ w ∈ wsX00, w ∈ wsX4_sortGuesses := by decide +kernel
theorem i_X4_sortGuesses_X4 : ∀ w ∈ wsX40, w ∈ wsX4_sortGuesses := by decide +kernel
theorem h_X4_sortGuesses : yX4_sortGuesses.cls = RX4 ∧ yX4_sortGuesses.cls ≠ "java/lang/invoke/MethodHandle" ∧ yX4_sortGuesses.cls ≠ "java/lang/invoke/VarHandle" ∧ (parseMethodDescriptor yX4_sortGuesses.desc).map (fun d => d.parameters.length) = some 1 := by decide +kernel
set_option maxHeartbeats 4000000 in
set_option maxRecDepth 100000 in
theorem c_X4_sortGuesses (lz : Launch) (G : gG) (r b f a d : Nat → Nat) (tr : Int64) (u : HeS) (h : HaS) (ga : Nat → Int32) (k N : Nat) (nn : Int32) (hk : u.size = nI k) (hk6 : k ≤ 6) (hN : h.pl = nI N) (hN24 : N ≤ 24) : gWr lz yX4_sortGuesses wsX4_sortGuesses 4 G [.ref (r 0), .int nn] (wRi r b f a d tr ++ wHe f G.2.1 u ++ wHa a G.2.1 h ++ wAr (r 3) G.2.1 24 ga) (wRi r b f a d tr ++ wHe f G.2.1 u ++ wHa a G.2.1 h ++ wAr (r 3) G.2.1 24 (sgF h u k nn ga (N * 12))) (some (.int (nI (cntOf (fun g => guFit h u k (nI g) && wIn (guAt h (nI g) nn) 0 23) (N * 12))))) := by
  refine g_wr (by decide) rfl (Nat.le_of_ble_eq_true rfl) ?_
  intro pz ez sz mz bz tz cz hx hb hr hml hown hts hlocks hK A hAe hP hD hS ls hl
  have hl : lv_has ls 5 [(0, .ref (r 0)), (1, .int nn)] := hl
  have f19 := hts (.fieldLink RX4 19 "WhisperRing" "hearsay" "LWhisperRing$Hearsay;") (by decide +kernel)
  have f216 := hts (.fieldLink RX4 216 "WhisperRing$Hall" "places" "I") (by decide +kernel)
  have f34 := hts (.fieldLink RX4 34 "WhisperRing" "guessesAt" "[I") (by decide +kernel)
  have f41 := hts (.fieldLink RX4 41 "WhisperRing" "hall" "LWhisperRing$Hall;") (by decide +kernel)
  refine lv_iconst (v := 0) hx hb dX4_sortGuesses_0 (by decide) ?_
  refine lv_istore_n (lv' := [(2, .int 0), (0, .ref (r 0)), (1, .int nn)]) hx hb dX4_sortGuesses_1 rfl hl (by decide) rfl (fun ls hl => ?_)
  have lp_2 : ∀ (fu_2 : Nat) (i : Nat) (v : Nat → Int32), (i ≤ 24) → (v = lsF (fun _ => 0) ga i) → 24 - i < fu_2 → ∀ (H : Heap) (locs : List Loc), va_P G.1 vwCl (wRi r b f a d tr ++ wHe f G.2.1 u ++ wHa a G.2.1 h ++ wAr (r 3) G.2.1 24 v) H → va_D A (wRi r b f a d tr ++ wHe f G.2.1 u ++ wHa a G.2.1 h ++ wAr (r 3) G.2.1 24 v) → va_S A sz.heap H locs → ∀ ls : Array Slot, lv_has ls 5 [(0, .ref (r 0)), (1, .int nn), (2, .int (nI i))] → W pz lz ez (gRm 4) sz mz ([.ref (r 0), .int nn] : List Value).toArray bz tz cz H locs 0 0 (MQ bz (gQ G (wRi r b f a d tr ++ wHe f G.2.1 u ++ wHa a G.2.1 h ++ wAr (r 3) G.2.1 24 ga) (wRi r b f a d tr ++ wHe f G.2.1 u ++ wHa a G.2.1 h ++ wAr (r 3) G.2.1 24 (sgF h u k nn ga (N * 12))) (some (.int (nI (cntOf (fun g => guFit h u k (nI g) && wIn (guAt h (nI g) nn) 0 23) (N * 12)))))) ([.ref (r 0), .int nn] : List Value).toArray sz 0 0 (gAd (wRi r b f a d tr ++ wHe f G.2.1 u ++ wHa a G.2.1 h ++ wAr (r 3) G.2.1 24 ga))) (F0 mz 2 ls []) := by
    intro fu_2
    induction fu_2 with
    | zero =>
      intro i v hi hv hf_2
      exact absurd hf_2 (Nat.not_lt_zero _)
    | succ fu_2 ih_2 =>
      intro i v hi hv hf_2 H locs hP hD hS ls hl
      refine lv_iload_n hx hb dX4_sortGuesses_2 rfl (lv_at hl 2 rfl) ?_
      refine lv_bipush (v := 24) hx hb dX4_sortGuesses_3 (by decide) ?_
      refine lv_icmp_ge (tgt := 21) hx hb dX4_sortGuesses_5 (by decide) (fun c_1 => ?_) (fun c_1 => ?_)
      · skip
        have c_1 := gl_le c_1
        have hx2 : 24 ≤ i := gl_nl rfl (y := 24) (k := 24) rfl (by omega) (by decide) c_1
        refine lv_iconst (v := 0) hx hb dX4_sortGuesses_21 (by decide) ?_
        refine lv_istore_n (lv' := [(2, .int 0), (0, .ref (r 0)), (1, .int nn)]) hx hb dX4_sortGuesses_22 rfl hl (by decide) rfl (fun ls hl => ?_)
        refine lv_iconst (v := 0) hx hb dX4_sortGuesses_23 (by decide) ?_
        refine lv_istore_n (lv' := [(3, .int 0), (2, .int 0), (0, .ref (r 0)), (1, .int nn)]) hx hb dX4_sortGuesses_24 rfl hl (by decide) rfl (fun ls hl => ?_)
        have lp_25 : ∀ (fu_25 : Nat) (i : Nat) (x : Nat) (v : Nat → Int32), (i ≤ N * 12) → (x = cntOf (fun g => guFit h u k (nI g) && wIn (guAt h (nI g) nn) 0 23) i) → (v = sgF h u k nn ga i) → N * 12 - i < fu_25 → ∀ (H : Heap) (locs : List Loc), va_P G.1 vwCl (wRi r b f a d tr ++ wHe f G.2.1 u ++ wHa a G.2.1 h ++ wAr (r 3) G.2.1 24 v) H → va_D A (wRi r b f a d tr ++ wHe f G.2.1 u ++ wHa a G.2.1 h ++ wAr (r 3) G.2.1 24 v) → va_S A sz.heap H locs → ∀ ls : Array Slot, lv_has ls 5 [(0, .ref (r 0)), (1, .int nn), (2, .int (nI x)), (3, .int (nI i))] → W pz lz ez (gRm 4) sz mz ([.ref (r 0), .int nn] : List Value).toArray bz tz cz H locs 0 0 (MQ bz (gQ G (wRi r b f a d tr ++ wHe f G.2.1 u ++ wHa a G.2.1 h ++ wAr (r 3) G.2.1 24 ga) (wRi r b f a d tr ++ wHe f G.2.1 u ++ wHa a G.2.1 h ++ wAr (r 3) G.2.1 24 (sgF h u k nn ga (N * 12))) (some (.int (nI (cntOf (fun g => guFit h u k (nI g) && wIn (guAt h (nI g) nn) 0 23) (N * 12)))))) ([.ref (r 0), .int nn] : List Value).toArray sz 0 0 (gAd (wRi r b f a d tr ++ wHe f G.2.1 u ++ wHa a G.2.1 h ++ wAr (r 3) G.2.1 24 ga))) (F0 mz 25 ls []) := by
          intro fu_25
          induction fu_25 with
          | zero =>
            intro i x v hi hac hv hf_25
            exact absurd hf_25 (Nat.not_lt_zero _)
          | succ fu_25 ih_25 =>
            intro i x v hi hac hv hf_25 H locs hP hD hS ls hl
            refine lv_iload_n hx hb dX4_sortGuesses_25 rfl (lv_at hl 3 rfl) ?_
            refine lv_aload_n hx hb dX4_sortGuesses_26 rfl (lv_at hl 0 rfl) ?_
            refine va_get (D := G.1) (ci := 4) (v := .ref (a 0)) (C := RX4) (T := TX4) (N := 8) hx hb hts i_X4_sortGuesses_X4 hown hK.1 hP 0 rfl rfl 5 (by decide) f41 (fun _ h9 => h9) rfl dX4_sortGuesses_27 ?_
            refine va_get (D := G.1) (ci := 0) (v := .int h.pl) (C := RX0) (T := TX0) (N := 6) hx hb hts i_X4_sortGuesses_X0 hown hK.1 hP 5 rfl rfl 0 (by decide) f216 (fun _ h9 => h9) rfl dX4_sortGuesses_30 ?_
            refine lv_bipush (v := 12) hx hb dX4_sortGuesses_33 (by decide) ?_
            refine lv_imul hx hb dX4_sortGuesses_35 ?_
            refine g_top (y := nI (N * 12)) (by rw [hN]; exact pk_mul N 12) ?_
            refine lv_icmp_ge (tgt := 96) hx hb dX4_sortGuesses_36 (by decide) (fun c_2 => ?_) (fun c_2 => ?_)
            · skip
              have c_2 := gl_le c_2
              have hx2 : N * 12 ≤ i := gl_ex rfl (by omega) (by omega) c_2
              refine lv_iload_n hx hb dX4_sortGuesses_96 rfl (lv_at hl 2 rfl) ?_
              have hP : va_P G.1 vwCl (wRi r b f a d tr ++ wHe f G.2.1 u ++ wHa a G.2.1 h ++ wAr (r 3) G.2.1 24 (sgF h u k nn ga (N * 12))) H := by
                rw [hv, show i = N * 12 by omega] at hP
                exact hP
              exact g_wi hx hb hr hlocks hAe hP hS dX4_sortGuesses_97 (by rw [hac, show i = N * 12 by omega])
            · skip
              have c_2 := gl_nle c_2
              have hlt : i < N * 12 := gl_in rfl (by omega) (by omega) c_2
              refine lv_aload_n hx hb dX4_sortGuesses_39 rfl (lv_at hl 0 rfl) ?_
              refine va_get (D := G.1) (ci := 4) (v := .ref (a 0)) (C := RX4) (T := TX4) (N := 8) hx hb hts i_X4_sortGuesses_X4 hown hK.1 hP 0 rfl rfl 5 (by decide) f41 (fun _ h9 => h9) rfl dX4_sortGuesses_40 ?_
              refine lv_iload_n hx hb dX4_sortGuesses_43 rfl (lv_at hl 3 rfl) ?_
              refine lv_iload_n hx hb dX4_sortGuesses_44 rfl (lv_at hl 1 rfl) ?_
              refine g_rdS (As := [.ref (a 0), .int (nI i), .int nn]) (rest := []) (nL := 5) hx hb hml hown hts (c_X1_placeBehind lz G a h (nI i) nn) gX4_sortGuesses_X1_placeBehind rfl h_X1_placeBehind ⟨Nat.le_of_ble_eq_true rfl, Nat.le_of_ble_eq_true rfl⟩ hK (hP.sub [5, 6, 7, 8, 9, 10, 11, 12, 13, 14] rfl) rfl hl.1 rfl (Nat.le_of_ble_eq_true rfl) ⟨Nat.le_refl _, Nat.le_refl _⟩ dX4_sortGuesses_45 ?_
              refine lv_istore (lv' := [(4, .int (guAt h (nI i) nn)), (0, .ref (r 0)), (1, .int nn), (2, .int (nI x)), (3, .int (nI i))]) hx hb dX4_sortGuesses_48 hl (by decide) rfl (fun ls hl => ?_)
              refine lv_aload_n hx hb dX4_sortGuesses_50 rfl (lv_at hl 1 rfl) ?_
              refine va_get (D := G.1) (ci := 4) (v := .ref (f 0)) (C := RX4) (T := TX4) (N := 8) hx hb hts i_X4_sortGuesses_X4 hown hK.1 hP 0 rfl rfl 1 (by decide) f19 (fun _ h9 => h9) rfl dX4_sortGuesses_51 ?_
              refine lv_aload_n hx hb dX4_sortGuesses_54 rfl (lv_at hl 1 rfl) ?_
              refine va_get (D := G.1) (ci := 4) (v := .ref (a 0)) (C := RX4) (T := TX4) (N := 8) hx hb hts i_X4_sortGuesses_X4 hown hK.1 hP 0 rfl rfl 5 (by decide) f41 (fun _ h9 => h9) rfl dX4_sortGuesses_55 ?_
              refine lv_iload_n hx hb dX4_sortGuesses_58 rfl (lv_at hl 4 rfl) ?_
              refine g_rdV (As := [.ref (a 0), .int (nI i)]) (rest := []) (nL := 5) hx hb hml hown hts (c_X1_fits lz G a f h u k (nI i) hk hk6) gX4_sortGuesses_X1_fits rfl h_X1_fits ⟨Nat.le_of_ble_eq_true rfl, Nat.le_of_ble_eq_true rfl⟩ hK (hP.sub [1, 2, 3, 4, 5, 6, 7, 8, 9, 10, 11, 12, 13, 14] rfl) (ci := 1) rfl rfl rfl rfl hl.1 rfl (Nat.le_of_ble_eq_true rfl) ⟨Nat.le_refl _, Nat.le_refl _⟩ dX4_sortGuesses_59 ?_
              refine lv_if_eq (tgt := 90) hx hb dX4_sortGuesses_62 (by decide) (fun c_3 => ?_) (fun c_3 => ?_)
              · skip
                have c_3 := bI_0 c_3
                refine lv_iinc (v := nI (i + 1)) (lv' := [(3, .int (nI (i + 1))), (4, .int (guAt h (nI i) nn)), (0, .ref (r 0)), (1, .int nn), (2, .int (nI x))]) hx hb dX4_sortGuesses_90 hl (k := 4) rfl (nI_1 i) (by decide) rfl (fun ls hl => ?_)
                refine lv_goto (tgt := 25) hx hb dX4_sortGuesses_93 (by decide) ?_
                exact ih_25 (i + 1) x v hlt (cO_n hac (by simp [c_3])) (by rw [hv, sgF] <;> (first | done | rw [if_pos c_3] | rw [if_neg c_3] | rw [if_neg (by rw [c_3]; decide)] | skip) <;> (first | done | rfl)) (by omega) _ _ hP hD hS ls (lv_sub hl [2, 3, 4, 0] rfl)
              · skip
                have c_3 := bI_1 c_3
                refine lv_iload hx hb dX4_sortGuesses_65 (lv_at hl 0 rfl) ?_
                refine lv_iconst (v := 0) hx hb dX4_sortGuesses_67 (by decide) ?_
                refine lv_bipush (v := 23) hx hb dX4_sortGuesses_68 (by decide) ?_
                refine g_rdS (As := [.int (guAt h (nI i) nn), .int 0, .int 23]) (rest := []) (nL := 5) hx hb hml hown hts (c_X4_within lz G (guAt h (nI i) nn) 0 23) gX4_sortGuesses_X4_within rfl h_X4_within ⟨Nat.le_of_ble_eq_true rfl, Nat.le_of_ble_eq_true rfl⟩ hK gP_nil rfl hl.1 rfl (Nat.le_of_ble_eq_true rfl) ⟨Nat.le_refl _, Nat.le_refl _⟩ dX4_sortGuesses_70 ?_
                refine lv_if_eq (tgt := 90) hx hb dX4_sortGuesses_73 (by decide) (fun c_4 => ?_) (fun c_4 => ?_)
                · skip
                  have c_4 := bI_0 c_4
                  refine lv_iinc (v := nI (i + 1)) (lv' := [(3, .int (nI (i + 1))), (4, .int (guAt h (nI i) nn)), (0, .ref (r 0)), (1, .int nn), (2, .int (nI x))]) hx hb dX4_sortGuesses_90 hl (k := 4) rfl (nI_1 i) (by decide) rfl (fun ls hl => ?_)
                  refine lv_goto (tgt := 25) hx hb dX4_sortGuesses_93 (by decide) ?_
                  exact ih_25 (i + 1) x v hlt (cO_n hac (by simp [c_3, c_4])) (by rw [hv, sgF] <;> (first | done | rw [if_pos c_3] | rw [if_neg c_3] | rw [if_neg (by rw [c_3]; decide)] | skip) <;> (first | done | rw [if_pos c_4] | rw [if_neg c_4] | rw [if_neg (by rw [c_4]; decide)] | skip) <;> (first | done | rfl)) (by omega) _ _ hP hD hS ls (lv_sub hl [2, 3, 4, 0] rfl)
                · skip
                  have c_4 := bI_1 c_4
                  obtain ⟨hg23, hgt⟩ := wIn_nn (k := 23) (by decide) c_4
                  refine lv_aload_n hx hb dX4_sortGuesses_76 rfl (lv_at hl 1 rfl) ?_
                  refine va_get (D := G.1) (ci := 4) (v := .ref (r 3)) (C := RX4) (T := TX4) (N := 8) hx hb hts i_X4_sortGuesses_X4 hown hK.1 hP 0 rfl rfl 4 (by decide) f34 (fun _ h9 => h9) rfl dX4_sortGuesses_77 ?_
                  refine lv_iload hx hb dX4_sortGuesses_80 (lv_at hl 0 rfl) ?_
                  refine g_top (y := nI ((guAt h (nI i) nn).toNatClampNeg)) (hgt) ?_
                  refine lv_dup2_11 hx hb dX4_sortGuesses_82 rfl rfl ?_
                  refine g_iald hx hb hK.1 hP 15 0 rfl rfl (i := ((guAt h (nI i) nn).toNatClampNeg)) (by omega) (by decide) dX4_sortGuesses_83 ?_
                  refine lv_iconst (v := 1) hx hb dX4_sortGuesses_84 (by decide) ?_
                  refine lv_iadd hx hb dX4_sortGuesses_85 ?_
                  refine g_iast hx hb hK.1 hP hD hS 15 0 rfl rfl (i := ((guAt h (nI i) nn).toNatClampNeg)) (by omega) (by decide) dX4_sortGuesses_86 (fun H locs hP hD hS => ?_)
                  have hP : va_P G.1 vwCl (wRi r b f a d tr ++ wHe f G.2.1 u ++ wHa a G.2.1 h ++ wAr (r 3) G.2.1 24 (upd v ((guAt h (nI i) nn).toNatClampNeg) ((v ((guAt h (nI i) nn).toNatClampNeg)) + 1))) H := hP
                  have hD : va_D A (wRi r b f a d tr ++ wHe f G.2.1 u ++ wHa a G.2.1 h ++ wAr (r 3) G.2.1 24 (upd v ((guAt h (nI i) nn).toNatClampNeg) ((v ((guAt h (nI i) nn).toNatClampNeg)) + 1))) := hD
                  refine lv_iinc (v := nI (x + 1)) (lv' := [(2, .int (nI (x + 1))), (4, .int (guAt h (nI i) nn)), (0, .ref (r 0)), (1, .int nn), (3, .int (nI i))]) hx hb dX4_sortGuesses_87 hl (k := 3) rfl (nI_1 x) (by decide) rfl (fun ls hl => ?_)
                  refine lv_iinc (v := nI (i + 1)) (lv' := [(3, .int (nI (i + 1))), (2, .int (nI (x + 1))), (4, .int (guAt h (nI i) nn)), (0, .ref (r 0)), (1, .int nn)]) hx hb dX4_sortGuesses_90 hl (k := 4) rfl (nI_1 i) (by decide) rfl (fun ls hl => ?_)
                  refine lv_goto (tgt := 25) hx hb dX4_sortGuesses_93 (by decide) ?_
                  exact ih_25 (i + 1) (x + 1) (upd v ((guAt h (nI i) nn).toNatClampNeg) ((v ((guAt h (nI i) nn).toNatClampNeg)) + 1)) hlt (cO_y hac (by simp [c_3, c_4])) (by rw [hv, sgF] <;> (first | done | rw [if_pos c_3] | rw [if_neg c_3] | rw [if_neg (by rw [c_3]; decide)] | skip) <;> (first | done | rw [if_pos c_4] | rw [if_neg c_4] | rw [if_neg (by rw [c_4]; decide)] | skip) <;> (first | done | rfl)) (by omega) _ _ hP hD hS ls (lv_sub hl [3, 4, 1, 0] rfl)
        exact lp_25 ((N * 12 - 0) + 1) 0 0 v (Nat.zero_le _) rfl (by rw [hv, show i = 24 by omega]; rfl) (Nat.lt_succ_self _) _ _ hP hD hS ls (lv_sub hl [2, 3, 1, 0] rfl)
      · skip
        have c_1 := gl_nle c_1
        have hlt : i < 24 := gl_ll rfl (y := 24) (k := 24) rfl (by omega) (by decide) c_1
        refine lv_aload_n hx hb dX4_sortGuesses_8 rfl (lv_at hl 0 rfl) ?_
        refine va_get (D := G.1) (ci := 4) (v := .ref (r 3)) (C := RX4) (T := TX4) (N := 8) hx hb hts i_X4_sortGuesses_X4 hown hK.1 hP 0 rfl rfl 4 (by decide) f34 (fun _ h9 => h9) rfl dX4_sortGuesses_9 ?_
        refine lv_iload_n hx hb dX4_sortGuesses_12 rfl (lv_at hl 2 rfl) ?_
        refine lv_iconst (v := 0) hx hb dX4_sortGuesses_13 (by decide) ?_
        refine g_iast hx hb hK.1 hP hD hS 15 0 rfl rfl (i := i) (by omega) (by decide) dX4_sortGuesses_14 (fun H locs hP hD hS => ?_)
        have hP : va_P G.1 vwCl (wRi r b f a d tr ++ wHe f G.2.1 u ++ wHa a G.2.1 h ++ wAr (r 3) G.2.1 24 (upd v i 0)) H := hP
        have hD : va_D A (wRi r b f a d tr ++ wHe f G.2.1 u ++ wHa a G.2.1 h ++ wAr (r 3) G.2.1 24 (upd v i 0)) := hD
        refine lv_iinc (v := nI (i + 1)) (lv' := [(2, .int (nI (i + 1))), (0, .ref (r 0)), (1, .int nn)]) hx hb dX4_sortGuesses_15 hl (k := 2) rfl (nI_1 i) (by decide) rfl (fun ls hl => ?_)
        refine lv_goto (tgt := 2) hx hb dX4_sortGuesses_18 (by decide) ?_
        exact ih_2 (i + 1) (upd v i 0) hlt (by rw [hv]; exact lsF_s rfl) (by omega) _ _ hP hD hS ls (lv_sub hl [1, 2, 0] rfl)
  exact lp_2 ((24 - 0) + 1) 0 ga (Nat.zero_le _) ((lsF_0 _ _).symm) (Nat.lt_succ_self _) _ _ hP hD hS ls (lv_sub hl [1, 2, 0] rfl)

theorem i_X4_ask_X0 : ∀ w ∈ wsX00, w ∈ wsX4_ask := by decide +kernel
theorem i_X4_ask_X4 : ∀ w ∈ wsX40, w ∈ wsX4_ask := by decide +kernel
theorem h_X4_ask : yX4_ask.cls = RX4 ∧ yX4_ask.cls ≠ "java/lang/invoke/MethodHandle" ∧ yX4_ask.cls ≠ "java/lang/invoke/VarHandle" ∧ (parseMethodDescriptor yX4_ask.desc).map (fun d => d.parameters.length) = some 1 := by decide +kernel
set_option maxHeartbeats 4000000 in
set_option maxRecDepth 100000 in
theorem c_X4_ask (lz : Launch) (G : gG) (r b f a d : Nat → Nat) (tr : Int64) (u : HeS) (h : HaS) (ga : Nat → Int32) (k N : Nat) (nn : Int32) (hk : u.size = nI k) (hk6 : k ≤ 6) (hN : h.pl = nI N) (hN24 : N ≤ 24) : gWr lz yX4_ask wsX4_ask 5 G [.ref (r 0), .int nn] (wRi r b f a d tr ++ wHe f G.2.1 u ++ wHa a G.2.1 h ++ wAr (r 3) G.2.1 24 ga) (wRi r b f a d tr ++ wHe f G.2.1 u ++ wHa a G.2.1 h ++ wAr (r 3) G.2.1 24 (xAsS h u k N nn ga)) (some (.int (xAsR h u k N nn ga))) := by
  refine g_wr (by decide) rfl (Nat.le_of_ble_eq_true rfl) ?_
  intro pz ez sz mz bz tz cz hx hb hr hml hown hts hlocks hK A hAe hP hD hS ls hl
  have hl : lv_has ls 7 [(0, .ref (r 0)), (1, .int nn)] := hl
  have f216 := hts (.fieldLink RX4 216 "WhisperRing$Hall" "places" "I") (by decide +kernel)
  have f219 := hts (.methodLink RX4 219 Lib.Math.max.name) (by decide +kernel)
  have f34 := hts (.fieldLink RX4 34 "WhisperRing" "guessesAt" "[I") (by decide +kernel)
  have f41 := hts (.fieldLink RX4 41 "WhisperRing" "hall" "LWhisperRing$Hall;") (by decide +kernel)
  have fmxc := hts (.code Lib.Math.max.name Lib.Math.max.code 2 (some .int)) (by decide +kernel)
  have fmxi := hts (.initialized "java/lang/Math") (by decide +kernel)
  have fmxs := hts (.static Lib.Math.max.name) (by decide +kernel)
  refine lv_iload_n hx hb dX4_ask_0 rfl (lv_at hl 1 rfl) ?_
  refine lv_iconst (v := 0) hx hb dX4_ask_1 (by decide) ?_
  refine lv_bipush (v := 99) hx hb dX4_ask_2 (by decide) ?_
  refine g_rdS (As := [.int nn, .int 0, .int 99]) (rest := []) (nL := 7) hx hb hml hown hts (c_X4_within lz G nn 0 99) gX4_ask_X4_within rfl h_X4_within ⟨Nat.le_of_ble_eq_true rfl, Nat.le_of_ble_eq_true rfl⟩ hK gP_nil rfl hl.1 rfl (Nat.le_of_ble_eq_true rfl) ⟨Nat.le_refl _, Nat.le_refl _⟩ dX4_ask_4 ?_
  refine lv_if_ne (tgt := 12) hx hb dX4_ask_7 (by decide) (fun c_1 => ?_) (fun c_1 => ?_)
  · skip
    have c_1 := bI_1 c_1
    refine lv_aload_n hx hb dX4_ask_12 rfl (lv_at hl 0 rfl) ?_
    refine lv_iload_n hx hb dX4_ask_13 rfl (lv_at hl 1 rfl) ?_
    refine g_wrV (As := [.int nn]) (rest := []) (nL := 7) hx hb hml hown hts (c_X4_sortGuesses lz G r b f a d tr u h ga k N nn hk hk6 hN hN24) gX4_ask_X4_sortGuesses rfl h_X4_sortGuesses ⟨Nat.le_of_ble_eq_true rfl, Nat.le_of_ble_eq_true rfl⟩ hK hP hD hS [0, 1, 2, 3, 4, 5, 6, 7, 8, 9, 10, 11, 12, 13, 14, 15] rfl rfl rfl (ws1 := wRi r b f a d tr ++ wHe f G.2.1 u ++ wHa a G.2.1 h ++ wAr (r 3) G.2.1 24 (sgF h u k nn ga (N * 12))) rfl [r 0, f 0, f 1, f 2, f 3, a 0, a 1, a 2, a 3, a 4, a 5, a 6, a 7, a 8, a 9, r 3] rfl rfl (ci := 4) rfl rfl rfl rfl hl.1 rfl (Nat.le_of_ble_eq_true rfl) ⟨Nat.le_refl _, Nat.le_refl _⟩ dX4_ask_14 (fun H locs hP hD hS => ?_)
    refine lv_istore_n (lv' := [(2, .int (nI (cntOf (fun g => guFit h u k (nI g) && wIn (guAt h (nI g) nn) 0 23) (N * 12)))), (0, .ref (r 0)), (1, .int nn)]) hx hb dX4_ask_17 rfl hl (by decide) rfl (fun ls hl => ?_)
    refine lv_iload_n hx hb dX4_ask_18 rfl (lv_at hl 0 rfl) ?_
    refine lv_istore_n (lv' := [(3, .int (nI (cntOf (fun g => guFit h u k (nI g) && wIn (guAt h (nI g) nn) 0 23) (N * 12)))), (2, .int (nI (cntOf (fun g => guFit h u k (nI g) && wIn (guAt h (nI g) nn) 0 23) (N * 12)))), (0, .ref (r 0)), (1, .int nn)]) hx hb dX4_ask_19 rfl hl (by decide) rfl (fun ls hl => ?_)
    refine lv_bipush (v := (-9)) hx hb dX4_ask_20 (by decide) ?_
    refine lv_istore (lv' := [(4, .int (-9)), (3, .int (nI (cntOf (fun g => guFit h u k (nI g) && wIn (guAt h (nI g) nn) 0 23) (N * 12)))), (2, .int (nI (cntOf (fun g => guFit h u k (nI g) && wIn (guAt h (nI g) nn) 0 23) (N * 12)))), (0, .ref (r 0)), (1, .int nn)]) hx hb dX4_ask_22 hl (by decide) rfl (fun ls hl => ?_)
    refine lv_iconst (v := 0) hx hb dX4_ask_24 (by decide) ?_
    refine lv_istore (lv' := [(5, .int 0), (4, .int (-9)), (3, .int (nI (cntOf (fun g => guFit h u k (nI g) && wIn (guAt h (nI g) nn) 0 23) (N * 12)))), (2, .int (nI (cntOf (fun g => guFit h u k (nI g) && wIn (guAt h (nI g) nn) 0 23) (N * 12)))), (0, .ref (r 0)), (1, .int nn)]) hx hb dX4_ask_25 hl (by decide) rfl (fun ls hl => ?_)
    have lp_27 : ∀ (fu_27 : Nat) (i : Nat) (v : Int32) (w : Int32), (i ≤ N) → (asL (sgF h u k nn ga (N * 12)) (nI (cntOf (fun g => guFit h u k (nI g) && wIn (guAt h (nI g) nn) 0 23) (N * 12))) i = (v, w)) → N - i < fu_27 → ∀ (H : Heap) (locs : List Loc), va_P G.1 vwCl (wRi r b f a d tr ++ wHe f G.2.1 u ++ wHa a G.2.1 h ++ wAr (r 3) G.2.1 24 (sgF h u k nn ga (N * 12))) H → va_D A (wRi r b f a d tr ++ wHe f G.2.1 u ++ wHa a G.2.1 h ++ wAr (r 3) G.2.1 24 (sgF h u k nn ga (N * 12))) → va_S A sz.heap H locs → ∀ ls : Array Slot, lv_has ls 7 [(0, .ref (r 0)), (1, .int nn), (2, .int (nI (cntOf (fun g => guFit h u k (nI g) && wIn (guAt h (nI g) nn) 0 23) (N * 12)))), (3, .int v), (4, .int w), (5, .int (nI i))] → W pz lz ez (gRm 5) sz mz ([.ref (r 0), .int nn] : List Value).toArray bz tz cz H locs 0 0 (MQ bz (gQ G (wRi r b f a d tr ++ wHe f G.2.1 u ++ wHa a G.2.1 h ++ wAr (r 3) G.2.1 24 ga) (wRi r b f a d tr ++ wHe f G.2.1 u ++ wHa a G.2.1 h ++ wAr (r 3) G.2.1 24 (xAsS h u k N nn ga)) (some (.int (xAsR h u k N nn ga)))) ([.ref (r 0), .int nn] : List Value).toArray sz 0 0 (gAd (wRi r b f a d tr ++ wHe f G.2.1 u ++ wHa a G.2.1 h ++ wAr (r 3) G.2.1 24 ga))) (F0 mz 27 ls []) := by
      intro fu_27
      induction fu_27 with
      | zero =>
        intro i v w hi hv hf_27
        exact absurd hf_27 (Nat.not_lt_zero _)
      | succ fu_27 ih_27 =>
        intro i v w hi hv hf_27 H locs hP hD hS ls hl
        refine lv_iload hx hb dX4_ask_27 (lv_at hl 5 rfl) ?_
        refine lv_aload_n hx hb dX4_ask_29 rfl (lv_at hl 0 rfl) ?_
        refine va_get (D := G.1) (ci := 4) (v := .ref (a 0)) (C := RX4) (T := TX4) (N := 8) hx hb hts i_X4_ask_X4 hown hK.1 hP 0 rfl rfl 5 (by decide) f41 (fun _ h9 => h9) rfl dX4_ask_30 ?_
        refine va_get (D := G.1) (ci := 0) (v := .int h.pl) (C := RX0) (T := TX0) (N := 6) hx hb hts i_X4_ask_X0 hown hK.1 hP 5 rfl rfl 0 (by decide) f216 (fun _ h9 => h9) rfl dX4_ask_33 ?_
        refine lv_icmp_ge (tgt := 86) hx hb dX4_ask_36 (by decide) (fun c_2 => ?_) (fun c_2 => ?_)
        · skip
          have c_2 := gl_le c_2
          have hx2 : N ≤ i := gl_ex hN (by omega) (by omega) c_2
          refine lv_iload hx hb dX4_ask_86 (lv_at hl 4 rfl) ?_
          have hP : va_P G.1 vwCl (wRi r b f a d tr ++ wHe f G.2.1 u ++ wHa a G.2.1 h ++ wAr (r 3) G.2.1 24 (xAsS h u k N nn ga)) H := by
            rw [xAsS] <;> (first | done | rw [if_pos c_1] | rw [if_neg c_1] | rw [if_neg (by rw [c_1]; decide)] | skip)
            exact hP
          exact g_wi hx hb hr hlocks hAe hP hS dX4_ask_88 (by rw [xAsR] <;> (first | done | rw [if_pos c_1] | rw [if_neg c_1] | rw [if_neg (by rw [c_1]; decide)] | skip) <;> (first | done | (rw [show i = N by omega] at hv; rw [hv])))
        · skip
          have c_2 := gl_nle c_2
          have hlt : i < N := gl_in hN (by omega) (by omega) c_2
          refine lv_iload hx hb dX4_ask_39 (lv_at hl 5 rfl) ?_
          refine lv_bipush (v := 24) hx hb dX4_ask_41 (by decide) ?_
          refine lv_icmp_ge (tgt := 86) hx hb dX4_ask_43 (by decide) (fun c_3 => absurd c_3 (nI_ge (a := i) (b := 24) (by omega) (by decide))) (fun c_3 => ?_)
          have c_3 := gl_nle c_3
          refine lv_aload_n hx hb dX4_ask_46 rfl (lv_at hl 0 rfl) ?_
          refine va_get (D := G.1) (ci := 4) (v := .ref (r 3)) (C := RX4) (T := TX4) (N := 8) hx hb hts i_X4_ask_X4 hown hK.1 hP 0 rfl rfl 4 (by decide) f34 (fun _ h9 => h9) rfl dX4_ask_47 ?_
          refine lv_iload hx hb dX4_ask_50 (lv_at hl 5 rfl) ?_
          refine g_iald hx hb hK.1 hP 15 0 rfl rfl (i := i) (by omega) (by decide) dX4_ask_52 ?_
          refine lv_iload_n hx hb dX4_ask_53 rfl (lv_at hl 2 rfl) ?_
          refine lv_aload_n hx hb dX4_ask_54 rfl (lv_at hl 0 rfl) ?_
          refine va_get (D := G.1) (ci := 4) (v := .ref (r 3)) (C := RX4) (T := TX4) (N := 8) hx hb hts i_X4_ask_X4 hown hK.1 hP 0 rfl rfl 4 (by decide) f34 (fun _ h9 => h9) rfl dX4_ask_55 ?_
          refine lv_iload hx hb dX4_ask_58 (lv_at hl 5 rfl) ?_
          refine g_iald hx hb hK.1 hP 15 0 rfl rfl (i := i) (by omega) (by decide) dX4_ask_60 ?_
          refine lv_isub hx hb dX4_ask_61 ?_
          refine va_mmax hx hb (hml.trans hl.1.symm) hown f219 fmxs fmxi fmxc (Nat.le_of_ble_eq_true rfl) (Nat.le_of_ble_eq_true rfl) (Nat.le_refl _) (Nat.le_refl _) dX4_ask_62 ?_
          refine lv_istore (lv' := [(6, .int (if (sgF h u k nn ga (N * 12)) i < (nI (cntOf (fun g => guFit h u k (nI g) && wIn (guAt h (nI g) nn) 0 23) (N * 12))) - ((sgF h u k nn ga (N * 12)) i) then (nI (cntOf (fun g => guFit h u k (nI g) && wIn (guAt h (nI g) nn) 0 23) (N * 12))) - ((sgF h u k nn ga (N * 12)) i) else (sgF h u k nn ga (N * 12)) i)), (0, .ref (r 0)), (1, .int nn), (2, .int (nI (cntOf (fun g => guFit h u k (nI g) && wIn (guAt h (nI g) nn) 0 23) (N * 12)))), (3, .int v), (4, .int w), (5, .int (nI i))]) hx hb dX4_ask_65 hl (by decide) rfl (fun ls hl => ?_)
          refine lv_iload hx hb dX4_ask_67 (lv_at hl 0 rfl) ?_
          refine lv_iload_n hx hb dX4_ask_69 rfl (lv_at hl 4 rfl) ?_
          refine lv_icmp_ge (tgt := 80) hx hb dX4_ask_70 (by decide) (fun c_4 => ?_) (fun c_4 => ?_)
          · skip
            have c_4 := gl_le c_4
            refine lv_iinc (v := nI (i + 1)) (lv' := [(5, .int (nI (i + 1))), (6, .int (if (sgF h u k nn ga (N * 12)) i < (nI (cntOf (fun g => guFit h u k (nI g) && wIn (guAt h (nI g) nn) 0 23) (N * 12))) - ((sgF h u k nn ga (N * 12)) i) then (nI (cntOf (fun g => guFit h u k (nI g) && wIn (guAt h (nI g) nn) 0 23) (N * 12))) - ((sgF h u k nn ga (N * 12)) i) else (sgF h u k nn ga (N * 12)) i)), (0, .ref (r 0)), (1, .int nn), (2, .int (nI (cntOf (fun g => guFit h u k (nI g) && wIn (guAt h (nI g) nn) 0 23) (N * 12)))), (3, .int v), (4, .int w)]) hx hb dX4_ask_80 hl (k := 6) rfl (nI_1 i) (by decide) rfl (fun ls hl => ?_)
            refine lv_goto (tgt := 27) hx hb dX4_ask_83 (by decide) ?_
            exact ih_27 (i + 1) v w hlt (by rw [asL, hv] <;> (first | done | rw [if_pos c_4] | rw [if_neg c_4] | rw [if_neg (by rw [c_4]; decide)] | skip) <;> (first | done | rfl)) (by omega) _ _ hP hD hS ls (lv_sub hl [2, 3, 4, 5, 6, 0] rfl)
          · skip
            have c_4 := gl_nle c_4
            refine lv_iload hx hb dX4_ask_73 (lv_at hl 0 rfl) ?_
            refine lv_istore_n (lv' := [(3, .int (if (sgF h u k nn ga (N * 12)) i < (nI (cntOf (fun g => guFit h u k (nI g) && wIn (guAt h (nI g) nn) 0 23) (N * 12))) - ((sgF h u k nn ga (N * 12)) i) then (nI (cntOf (fun g => guFit h u k (nI g) && wIn (guAt h (nI g) nn) 0 23) (N * 12))) - ((sgF h u k nn ga (N * 12)) i) else (sgF h u k nn ga (N * 12)) i)), (6, .int (if (sgF h u k nn ga (N * 12)) i < (nI (cntOf (fun g => guFit h u k (nI g) && wIn (guAt h (nI g) nn) 0 23) (N * 12))) - ((sgF h u k nn ga (N * 12)) i) then (nI (cntOf (fun g => guFit h u k (nI g) && wIn (guAt h (nI g) nn) 0 23) (N * 12))) - ((sgF h u k nn ga (N * 12)) i) else (sgF h u k nn ga (N * 12)) i)), (0, .ref (r 0)), (1, .int nn), (2, .int (nI (cntOf (fun g => guFit h u k (nI g) && wIn (guAt h (nI g) nn) 0 23) (N * 12)))), (4, .int w), (5, .int (nI i))]) hx hb dX4_ask_75 rfl hl (by decide) rfl (fun ls hl => ?_)
            refine lv_iload hx hb dX4_ask_76 (lv_at hl 6 rfl) ?_
            refine lv_istore (lv' := [(4, .int (nI i)), (3, .int (if (sgF h u k nn ga (N * 12)) i < (nI (cntOf (fun g => guFit h u k (nI g) && wIn (guAt h (nI g) nn) 0 23) (N * 12))) - ((sgF h u k nn ga (N * 12)) i) then (nI (cntOf (fun g => guFit h u k (nI g) && wIn (guAt h (nI g) nn) 0 23) (N * 12))) - ((sgF h u k nn ga (N * 12)) i) else (sgF h u k nn ga (N * 12)) i)), (6, .int (if (sgF h u k nn ga (N * 12)) i < (nI (cntOf (fun g => guFit h u k (nI g) && wIn (guAt h (nI g) nn) 0 23) (N * 12))) - ((sgF h u k nn ga (N * 12)) i) then (nI (cntOf (fun g => guFit h u k (nI g) && wIn (guAt h (nI g) nn) 0 23) (N * 12))) - ((sgF h u k nn ga (N * 12)) i) else (sgF h u k nn ga (N * 12)) i)), (0, .ref (r 0)), (1, .int nn), (2, .int (nI (cntOf (fun g => guFit h u k (nI g) && wIn (guAt h (nI g) nn) 0 23) (N * 12)))), (5, .int (nI i))]) hx hb dX4_ask_78 hl (by decide) rfl (fun ls hl => ?_)
            refine lv_iinc (v := nI (i + 1)) (lv' := [(5, .int (nI (i + 1))), (4, .int (nI i)), (3, .int (if (sgF h u k nn ga (N * 12)) i < (nI (cntOf (fun g => guFit h u k (nI g) && wIn (guAt h (nI g) nn) 0 23) (N * 12))) - ((sgF h u k nn ga (N * 12)) i) then (nI (cntOf (fun g => guFit h u k (nI g) && wIn (guAt h (nI g) nn) 0 23) (N * 12))) - ((sgF h u k nn ga (N * 12)) i) else (sgF h u k nn ga (N * 12)) i)), (6, .int (if (sgF h u k nn ga (N * 12)) i < (nI (cntOf (fun g => guFit h u k (nI g) && wIn (guAt h (nI g) nn) 0 23) (N * 12))) - ((sgF h u k nn ga (N * 12)) i) then (nI (cntOf (fun g => guFit h u k (nI g) && wIn (guAt h (nI g) nn) 0 23) (N * 12))) - ((sgF h u k nn ga (N * 12)) i) else (sgF h u k nn ga (N * 12)) i)), (0, .ref (r 0)), (1, .int nn), (2, .int (nI (cntOf (fun g => guFit h u k (nI g) && wIn (guAt h (nI g) nn) 0 23) (N * 12))))]) hx hb dX4_ask_80 hl (k := 6) rfl (nI_1 i) (by decide) rfl (fun ls hl => ?_)
            refine lv_goto (tgt := 27) hx hb dX4_ask_83 (by decide) ?_
            exact ih_27 (i + 1) (if (sgF h u k nn ga (N * 12)) i < (nI (cntOf (fun g => guFit h u k (nI g) && wIn (guAt h (nI g) nn) 0 23) (N * 12))) - ((sgF h u k nn ga (N * 12)) i) then (nI (cntOf (fun g => guFit h u k (nI g) && wIn (guAt h (nI g) nn) 0 23) (N * 12))) - ((sgF h u k nn ga (N * 12)) i) else (sgF h u k nn ga (N * 12)) i) (nI i) hlt (by rw [asL, hv] <;> (first | done | rw [if_pos c_4] | rw [if_neg c_4] | rw [if_neg (by rw [c_4]; decide)] | skip) <;> (first | done | rfl)) (by omega) _ _ hP hD hS ls (lv_sub hl [4, 5, 6, 2, 1, 0] rfl)
    exact lp_27 ((N - 0) + 1) 0 (nI (cntOf (fun g => guFit h u k (nI g) && wIn (guAt h (nI g) nn) 0 23) (N * 12))) (-9) (Nat.zero_le _) rfl (Nat.lt_succ_self _) _ _ hP hD hS ls (lv_sub hl [4, 5, 3, 2, 1, 0] rfl)
  · skip
    have c_1 := bI_0 c_1
    refine lv_iconst (v := (-1)) hx hb dX4_ask_10 (by decide) ?_
    have hP : va_P G.1 vwCl (wRi r b f a d tr ++ wHe f G.2.1 u ++ wHa a G.2.1 h ++ wAr (r 3) G.2.1 24 (xAsS h u k N nn ga)) sz.heap := by
      rw [xAsS] <;> (first | done | rw [if_pos c_1] | rw [if_neg c_1] | rw [if_neg (by rw [c_1]; decide)] | skip)
      exact hP
    exact g_wi hx hb hr hlocks hAe hP hS dX4_ask_11 (by rw [xAsR] <;> (first | done | rw [if_pos c_1] | rw [if_neg c_1] | rw [if_neg (by rw [c_1]; decide)] | skip) <;> (first | done | rfl | (simp only [c_1]; rfl) | (simp [c_1, bI]; done)))
