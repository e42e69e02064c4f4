def wRi (r b f a d : Nat → Nat) (tr : Int64) : va_W := [(r 0, .inr (4, [.ref (b 0), .ref (f 0), .ref (r 1), .ref (r 2), .ref (r 3), .ref (a 0), .ref (d 0), .long tr]))]
def wAr (q : Nat) (c : ClassId) (n : Nat) (f : Nat → Int32) : va_W := [(q, .inl (c, n, .inl f))]
def wAq (q : Nat) (c : ClassId) (n : Nat) (f : Nat → Option Nat) : va_W := [(q, .inl (c, n, .inr (.inr (.inr (.inr f)))))]
def imF (i j : Nat → Nat) : Nat → Option Nat := fun k => if k = 0 then some (i 0) else some (j 0)
section GX
variable {p : Program} {l : Launch} {e : Env} {R : Room} {s : State} {m : MethodId} {args : Array Value} {below : List Frame} {meth : Method} {c : Code} {H : Heap} {locs : List Loc} {cells slots : Nat} {Q : State → Prop}
variable {cc : ByteArray} {pc : Nat} {ls : Array Slot} {rest st0 : List Value} {D : va_G} {cl : List vw_C} {A : Nat → Prop} {a : Nat} {tys : List (ClassId × FieldType)} {ws : va_W} {H0 : Heap} {G : gG}
theorem g_aald (hx : p.tables.exec = Jvm.exec) (hb : c.code = cc) (hK : va_K D cl tys s) (hP : va_P D cl ws H) (q0 t0 : Nat) {cA : ClassId} {C : String} {n : Nat} {f : Nat → Option Nat} (ha : ws[q0]? = some (a, .inl (cA, n, .inr (.inr (.inr (.inr f)))))) (ht : tys[t0]? = some (cA, .object C)) {i v : Nat} (hi : i < n) (hn : n < 2 ^ 31) (hf : f i = some v) (hdg : decode cc pc = .ok (.aaload, 1))
    (kk : W p l e R s m args below meth c H locs cells slots Q (F0 m (pc + 1) ls (.ref v :: rest))) : W p l e R s m args below meth c H locs cells slots Q (F0 m pc ls (.int (nI i) :: .ref a :: rest)) := by
  refine va_aldq hx hb hK hP q0 t0 ha ht (vp_in_nI hi hn) hdg ?_
  rw [nI_clamp (Nat.lt_trans hi hn), hf]
  exact kk
theorem g_wl {cs cs' : va_W} {v r : Int64} (hx : p.tables.exec = Jvm.exec) (hb : c.code = cc) (hr : meth.sig.returnType = some .long) (hlocks : meth.locks = false) (hAe : A = gAd cs) (hP : va_P G.1 vwCl cs' H) (hS : va_S A s.heap H locs) (hdg : decode cc pc = .ok (.lreturn, 1)) (hv : v = r) :
    W p l e R s m args below meth c H locs 0 0 (MQ below (gQ G cs cs' (some (.long r))) args s 0 0 (gAd cs)) (F0 m pc ls [.long v]) := by
  subst hAe
  exact W.lret hx hb hr (fun t ht _ => ⟨by rw [hv], by rw [ht]; exact hP, hS.F ht⟩) hS.2.2 hdg hlocks
end GX
theorem wIn_sp {x lo hi : Int32} (c : wIn x lo hi = true) : ¬ x < lo ∧ ¬ hi < x := by
  unfold wIn at c
  simp only [Bool.and_eq_true, Bool.not_eq_true', decide_eq_false_iff_not] at c
  exact c
theorem wIn_nn {x hi : Int32} {k : Nat} (hh : hi.toInt = k) (c : wIn x 0 hi = true) : x.toNatClampNeg ≤ k ∧ x = nI x.toNatClampNeg := by
  obtain ⟨h1, h2⟩ := wIn_sp c
  obtain ⟨j, hj, rfl⟩ := nI_of h1
  rw [nI_clamp hj]
  refine ⟨?_, rfl⟩
  rw [Int32.lt_iff_toInt_lt, hh, nI_toInt hj] at h2
  omega
theorem wIn_nat {x sa : Int32} {n : Nat} (hn : sa = nI n) (hn8 : n ≤ 8) (c : wIn x 0 (sa - 1) = true) : x.toNatClampNeg < n ∧ x = nI x.toNatClampNeg := by
  rcases Nat.eq_zero_or_pos n with h0 | h0
  · exfalso
    obtain ⟨h1, h2⟩ := wIn_sp c
    rw [hn, h0] at h2
    have e : (nI 0 - 1).toInt = -1 := by decide
    rw [Int32.lt_iff_toInt_lt, e] at h2
    rw [Int32.lt_iff_toInt_lt] at h1
    have e2 : (0 : Int32).toInt = 0 := by decide
    omega
  · have e : sa - 1 = nI (n - 1) := by rw [hn]; exact pk_sub (b := 1) h0
    rw [e] at c
    have h := wIn_nn (k := n - 1) (nI_toInt (by omega)) c
    exact ⟨by omega, h.2⟩
def xTypS (sc : ScS) (Z : Nat) (x : Int32) : ScS := if wIn x 0 255 then scApp sc Z x else sc
def xTypR (sc : ScS) (Z : Nat) (x : Int32) : Int32 := if wIn x 0 255 then (if decide (sc.size < 120) then (scApp sc Z x).size else -3) else -1
def xGaSc (t : ScS) : ScS := (0, t.bytes, t.next, t.tokAt, t.tok, t.val, t.told)
def xSayR (h : HaS) (s what : Int32) : Int32 := if wIn s 0 (h.mo.sayings - 1) then (if what = 0 then h.mo.frm s.toNatClampNeg else if what = 1 then h.mo.speed s.toNatClampNeg else if what = 2 then h.mo.way s.toNatClampNeg else if what = 3 then h.mo.loud s.toNatClampNeg else if what = 4 then hPlace h s.toNatClampNeg 0 else if what = 5 then hLaps h (hGone h s.toNatClampNeg 0) else if what = 6 then hStr h s.toNatClampNeg 0 else if what = 7 then bI (hasB h.mo.hushed s) else if what = 8 then hLastOf h s.toNatClampNeg else -1) else -1
def xPlS (h : HaS) (n : Nat) (p what : Int32) : HaS := if wIn p 0 (h.pl - 1) then (if what = 5 then hQuiS (hLis h n 0) n p else hLis h n 0) else h
def xPlR (h : HaS) (n : Nat) (p what : Int32) : Int32 := if wIn p 0 (h.pl - 1) then (if what = 0 then bI (hasB (hLis h n 0).nich p) else if what = 1 then hSndB (hLis h n 0) n p else if what = 2 then hClear (hLis h n 0) n p else if what = 3 then bI (hSea (hLis h n 0) n p) else if what = 4 then (if hasB (hLis h n 0).nich p then 2 * hStrAt (hLis h n 0) n p else hStrAt (hLis h n 0) n p) else if what = 5 then oI (hQuiF (hLis h n 0) n p) else -1) else -1
theorem moNote_say (m : MoS) (k : Nat) (d : Int32) : (moNote m k d).sayings = m.sayings := by unfold moNote; split <;> rfl
theorem moGo_say (m : MoS) (k : Nat) (x : Int32) : (moGo m k x).sayings = m.sayings := moNote_say _ k x
theorem moAdd_noted (m : MoS) (n : Nat) (p sp wa lo : Int32) : (moAdd m n p sp wa lo).noted = m.noted := by unfold moAdd; split <;> rfl
def xTiS (h : HaS) (n k : Nat) (x : Int32) : HaS := if wIn x 1 99 then (if 9999 < h.mo.tick + x then h else hLis (h.pl, h.loss, h.nich, moGo h.mo k x, h.ats, h.str) n 0) else h
def xTiR (h : HaS) (n k : Nat) (x : Int32) : Int32 := if wIn x 1 99 then (if 9999 < h.mo.tick + x then -2 else jBc (hLast (hLis (h.pl, h.loss, h.nich, moGo h.mo k x, h.ats, h.str) n 0) n)) else -1
def mayB (h : HaS) (p sp wa lo : Int32) : Bool := wIn p 0 (h.pl - 1) && (wIn sp 1 6 && (wIn wa 0 1 && wIn lo 1 30))
def xSaS (h : HaS) (n k : Nat) (p sp wa lo : Int32) : HaS := if mayB h p sp wa lo then (if decide (h.mo.sayings < 8) then (h.pl, h.loss, h.nich, moNote (moAdd h.mo n p sp wa lo) k 0, h.ats, h.str) else (h.pl, h.loss, h.nich, moAdd h.mo n p sp wa lo, h.ats, h.str)) else h
def xSaR (h : HaS) (n k : Nat) (p sp wa lo : Int32) : Int32 := if mayB h p sp wa lo then (if decide (h.mo.sayings < 8) then (moNote (moAdd h.mo n p sp wa lo) k 0).sayings - 1 else -3) else -1
def xHuS (h : HaS) (k : Nat) (s : Int32) : HaS := if wIn s 0 (h.mo.sayings - 1) then (if hStr h s.toNatClampNeg 0 = 0 then h else (h.pl, h.loss, h.nich, moHush h.mo k s, h.ats, h.str)) else h
def xHuR (h : HaS) (s : Int32) : Int32 := if wIn s 0 (h.mo.sayings - 1) then (if hStr h s.toNatClampNeg 0 = 0 then -2 else hStr h s.toNatClampNeg 0) else -1
def xUnR (h : HaS) (k : Nat) : Int32 := if decide (0 < h.mo.noted) then (moBack h.mo k).noted else -2
def xNoR (h : HaS) (n N : Nat) (what : Int32) : Int32 := if what = 0 then h.mo.tick else if what = 1 then hLast (hLis h n 0) n else if what = 2 then hStrOf (hLis h n 0) n (hLast (hLis h n 0) n) else if what = 3 then hNSnd (hLis h n 0) n N else if what = 4 then hNSea (hLis h n 0) n N else -1
def xWhR (h : HaS) (s p what : Int32) : Int32 := if wIn s 0 (h.mo.sayings - 1) then (if wIn p 0 (h.pl - 1) then (if what = 0 then hWhen h s.toNatClampNeg p else if what = 1 then hOften h s.toNatClampNeg p else -1) else -1) else -1
def xMeR (h : HaS) (s t : Int32) : Int32 := if wIn s 0 (h.mo.sayings - 1) then (if wIn t 0 (h.mo.sayings - 1) then (if s = t then -1 else hMeet h s.toNatClampNeg t.toNatClampNeg) else -1) else -1
def xBeS (h : HaS) (n N : Nat) (p q sp wa lo : Int32) : HaS := if mayB h p sp wa lo then (if wIn q 0 (h.pl - 1) then (if hTicksTo h N p q sp wa = -9 then h else if hLeft h lo (sp * hTicksTo h N p q sp wa) = 0 then h else hWaitS h n q (hTicksTo h N p q sp wa) (hLeft h lo (sp * hTicksTo h N p q sp wa))) else h) else h
def xBeR (h : HaS) (n N : Nat) (p q sp wa lo : Int32) : Int32 := if mayB h p sp wa lo then (if wIn q 0 (h.pl - 1) then (if hTicksTo h N p q sp wa = -9 then -9 else if hLeft h lo (sp * hTicksTo h N p q sp wa) = 0 then -9 else oI (hWaitF h n q (hTicksTo h N p q sp wa) (hLeft h lo (sp * hTicksTo h N p q sp wa)))) else -1) else -1
def xStS (h : HaS) (n : Nat) (s : Int32) : HaS := if wIn s 0 (h.mo.sayings - 1) then (if hStr h s.toNatClampNeg 0 = 0 then h else hLis h n 0) else h
def xStR (h : HaS) (n : Nat) (s : Int32) : Int32 := if wIn s 0 (h.mo.sayings - 1) then (if hStr h s.toNatClampNeg 0 = 0 then -9 else hFewL (hLis h n 0) n s.toNatClampNeg (hOth (hLis h n 0) n s.toNatClampNeg) ((hOth (hLis h n 0) n s.toNatClampNeg).toNatClampNeg + 1)) else -1
/-- bits of sayings are a number below 256 -/
theorem bits_nat (q : Nat → Bool) : ∀ n, n ≤ 31 → ∃ O : Nat, O < 2 ^ n ∧ bitsOf q n = nI O
  | 0, _ => ⟨0, by decide, rfl⟩
  | n + 1, h => by
    obtain ⟨O, h1, h2⟩ := bits_nat q n (by omega)
    rw [bitsOf]
    split
    · refine ⟨O + 2 ^ n, by rw [Nat.pow_succ]; omega, ?_⟩
      rw [h2]
      have e1 : (1 : Int32) <<< (nI n &&& 31) = nI (2 ^ n) := by
        have hk : ∀ k : Fin 31, (1 : Int32) <<< (nI k.val &&& 31) = nI (2 ^ k.val) := by decide
        exact hk ⟨n, by omega⟩
      rw [e1]
      have hp : 2 ^ n < 2 ^ 31 := Nat.pow_lt_pow_right (by omega) (by omega)
      apply Int32.toBitVec_inj.mp
      apply BitVec.eq_of_toNat_eq
      rw [show (nI O ||| nI (2 ^ n)).toBitVec = (nI O).toBitVec ||| (nI (2 ^ n)).toBitVec from rfl, BitVec.toNat_or, pk_tn (by omega), pk_tn (by omega), pk_tn (by omega)]
      rw [Nat.add_comm, Nat.or_comm]
      have := Nat.two_pow_add_eq_or_of_lt h1 1
      rw [Nat.mul_one] at this
      exact this.symm
    · exact ⟨O, by rw [Nat.pow_succ]; omega, h2⟩
theorem hOth_nat (h : HaS) (n s : Nat) (hn8 : n ≤ 8) : ∃ O : Nat, O < 256 ∧ hOth h n s = nI O := by
  obtain ⟨O, h1, h2⟩ := bits_nat (fun t => decide (h.ats t = h.ats s) && decide (0 < h.str t)) n (by omega)
  have h3 : O < 256 := Nat.lt_of_lt_of_le h1 (show 2 ^ n ≤ 2 ^ 8 from Nat.pow_le_pow_right (by omega) hn8)
  refine ⟨(hOth h n s).toBitVec.toNat, ?_, ?_⟩
  · show (hSndB h n (h.ats s) &&& _).toBitVec.toNat < 256
    unfold hSndB
    rw [h2]
    show ((nI O).toBitVec &&& _).toNat < 256
    rw [BitVec.toNat_and, pk_tn (by omega)]
    exact Nat.lt_of_le_of_lt Nat.and_le_left h3
  · apply Int32.toBitVec_inj.mp
    apply BitVec.eq_of_toNat_eq
    rw [pk_tn (hOth h n s).toBitVec.isLt]
theorem i_X4_type_X3 : ∀ w ∈ wsX30, w ∈ wsX4_type := by decide +kernel
theorem i_X4_type_X4 : ∀ w ∈ wsX40, w ∈ wsX4_type := by decide +kernel
theorem h_X4_type : yX4_type.cls = RX4 ∧ yX4_type.cls ≠ "java/lang/invoke/MethodHandle" ∧ yX4_type.cls ≠ "java/lang/invoke/VarHandle" ∧ (parseMethodDescriptor yX4_type.desc).map (fun d => d.parameters.length) = some 1 := by decide +kernel
set_option maxHeartbeats 4000000 in
set_option maxRecDepth 100000 in
theorem c_X4_type (lz : Launch) (G : gG) (r b f a d : Nat → Nat) (tr : Int64) (sc : ScS) (Z : Nat) (x : Int32) (hz : sc.size = nI Z) (hZ : Z ≤ 120) : gWr lz yX4_type wsX4_type 1 G [.ref (r 0), .int x] (wRi r b f a d tr ++ wSc b G.2.1 sc) (wRi r b f a d tr ++ wSc b G.2.1 (xTypS sc Z x)) (some (.int (xTypR sc Z x))) := by
  refine g_wr (by decide) rfl (Nat.le_of_ble_eq_true rfl) ?_
  intro pz ez sz mz bz tz cz hx hb hr hml hown hts hlocks hK A hAe hP hD hS ls hl
  have hl : lv_has ls 2 [(0, .ref (r 0)), (1, .int x)] := hl
  have f12 := hts (.fieldLink RX4 12 "WhisperRing" "script" "LWhisperRing$Script;") (by decide +kernel)
  have f56 := hts (.fieldLink RX4 56 "WhisperRing$Script" "size" "I") (by decide +kernel)
  refine lv_iload_n hx hb dX4_type_0 rfl (lv_at hl 1 rfl) ?_
  refine lv_iconst (v := 0) hx hb dX4_type_1 (by decide) ?_
  refine lv_sipush (v := 255) hx hb dX4_type_2 (by decide) ?_
  refine g_rdS (As := [.int x, .int 0, .int 255]) (rest := []) (nL := 2) hx hb hml hown hts (c_X4_within lz G x 0 255) gX4_type_X4_within rfl h_X4_within ⟨Nat.le_of_ble_eq_true rfl, Nat.le_of_ble_eq_true rfl⟩ hK gP_nil rfl hl.1 rfl (Nat.le_of_ble_eq_true rfl) ⟨Nat.le_refl _, Nat.le_refl _⟩ dX4_type_5 ?_
  refine lv_if_ne (tgt := 13) hx hb dX4_type_8 (by decide) (fun c_1 => ?_) (fun c_1 => ?_)
  · skip
    have c_1 := bI_1 c_1
    refine lv_aload_n hx hb dX4_type_13 rfl (lv_at hl 0 rfl) ?_
    refine va_get (D := G.1) (ci := 4) (v := .ref (b 0)) (C := RX4) (T := TX4) (N := 8) hx hb hts i_X4_type_X4 hown hK.1 hP 0 rfl rfl 0 (by decide) f12 (fun _ h9 => h9) rfl dX4_type_14 ?_
    refine lv_iload_n hx hb dX4_type_17 rfl (lv_at hl 1 rfl) ?_
    refine g_wrV (As := [.int x]) (rest := []) (nL := 2) hx hb hml hown hts (c_X3_append lz G b sc Z x hz hZ) gX4_type_X3_append rfl h_X3_append ⟨Nat.le_of_ble_eq_true rfl, Nat.le_of_ble_eq_true rfl⟩ hK hP hD hS [1, 2] rfl rfl rfl (ws1 := wRi r b f a d tr ++ wSc b G.2.1 (scApp sc Z x)) rfl [r 0, b 0, b 1] rfl rfl (ci := 3) rfl rfl rfl rfl hl.1 rfl (Nat.le_of_ble_eq_true rfl) ⟨Nat.le_refl _, Nat.le_refl _⟩ dX4_type_18 (fun H locs hP hD hS => ?_)
    refine lv_if_eq (tgt := 34) hx hb dX4_type_21 (by decide) (fun c_2 => ?_) (fun c_2 => ?_)
    · skip
      have c_2 := bI_0 c_2
      refine lv_bipush (v := (-3)) hx hb dX4_type_34 (by decide) ?_
      have hP : va_P G.1 vwCl (wRi r b f a d tr ++ wSc b G.2.1 (xTypS sc Z x)) H := by
        rw [xTypS] <;> (first | done | rw [if_pos c_1] | rw [if_neg c_1] | rw [if_neg (by rw [c_1]; decide)] | skip) <;> (first | done | rw [if_pos c_2] | rw [if_neg c_2] | rw [if_neg (by rw [c_2]; decide)] | skip)
        exact hP
      exact g_wi hx hb hr hlocks hAe hP hS dX4_type_36 (by rw [xTypR] <;> (first | done | rw [if_pos c_1] | rw [if_neg c_1] | rw [if_neg (by rw [c_1]; decide)] | skip) <;> (first | done | rw [if_pos c_2] | rw [if_neg c_2] | rw [if_neg (by rw [c_2]; decide)] | skip) <;> (first | done | rfl | (simp only [c_1, c_2]; rfl) | (simp [c_1, c_2, bI]; done)))
    · skip
      have c_2 := bI_1 c_2
      refine lv_aload_n hx hb dX4_type_24 rfl (lv_at hl 0 rfl) ?_
      refine va_get (D := G.1) (ci := 4) (v := .ref (b 0)) (C := RX4) (T := TX4) (N := 8) hx hb hts i_X4_type_X4 hown hK.1 hP 0 rfl rfl 0 (by decide) f12 (fun _ h9 => h9) rfl dX4_type_25 ?_
      refine va_get (D := G.1) (ci := 3) (v := .int ((scApp sc Z x).size)) (C := RX3) (T := TX3) (N := 7) hx hb hts i_X4_type_X3 hown hK.1 hP 1 rfl rfl 0 (by decide) f56 (fun _ h9 => h9) rfl dX4_type_28 ?_
      refine lv_goto (tgt := 36) hx hb dX4_type_31 (by decide) ?_
      have hP : va_P G.1 vwCl (wRi r b f a d tr ++ wSc b G.2.1 (xTypS sc Z x)) H := by
        rw [xTypS] <;> (first | done | rw [if_pos c_1] | rw [if_neg c_1] | rw [if_neg (by rw [c_1]; decide)] | skip) <;> (first | done | rw [if_pos c_2] | rw [if_neg c_2] | rw [if_neg (by rw [c_2]; decide)] | skip)
        exact hP
      exact g_wi hx hb hr hlocks hAe hP hS dX4_type_36 (by rw [xTypR] <;> (first | done | rw [if_pos c_1] | rw [if_neg c_1] | rw [if_neg (by rw [c_1]; decide)] | skip) <;> (first | done | rw [if_pos c_2] | rw [if_neg c_2] | rw [if_neg (by rw [c_2]; decide)] | skip) <;> (first | done | rfl | (simp only [c_1, c_2]; rfl) | (simp [c_1, c_2, bI]; done)))
  · skip
    have c_1 := bI_0 c_1
    refine lv_iconst (v := (-1)) hx hb dX4_type_11 (by decide) ?_
    have hP : va_P G.1 vwCl (wRi r b f a d tr ++ wSc b G.2.1 (xTypS sc Z x)) sz.heap := by
      rw [xTypS] <;> (first | done | rw [if_pos c_1] | rw [if_neg c_1] | rw [if_neg (by rw [c_1]; decide)] | skip)
      exact hP
    exact g_wi hx hb hr hlocks hAe hP hS dX4_type_12 (by rw [xTypR] <;> (first | done | rw [if_pos c_1] | rw [if_neg c_1] | rw [if_neg (by rw [c_1]; decide)] | skip) <;> (first | done | rfl | (simp only [c_1]; rfl) | (simp [c_1, bI]; done)))

theorem i_X4_clear_X3 : ∀ w ∈ wsX30, w ∈ wsX4_clear := by decide +kernel
theorem i_X4_clear_X4 : ∀ w ∈ wsX40, w ∈ wsX4_clear := by decide +kernel
theorem h_X4_clear : yX4_clear.cls = RX4 ∧ yX4_clear.cls ≠ "java/lang/invoke/MethodHandle" ∧ yX4_clear.cls ≠ "java/lang/invoke/VarHandle" ∧ (parseMethodDescriptor yX4_clear.desc).map (fun d => d.parameters.length) = some 0 := by decide +kernel
set_option maxHeartbeats 4000000 in
set_option maxRecDepth 100000 in
theorem c_X4_clear (lz : Launch) (G : gG) (r b f a d : Nat → Nat) (tr : Int64) (sc : ScS)  : gWr lz yX4_clear wsX4_clear 0 G [.ref (r 0)] (wRi r b f a d tr ++ wSc b G.2.1 sc) (wRi r b f a d tr ++ wSc b G.2.1 (0, sc.bytes, sc.next, sc.tokAt, sc.tok, sc.val, sc.told)) (some (.int sc.size)) := by
  refine g_wr (by decide) rfl (Nat.le_of_ble_eq_true rfl) ?_
  intro pz ez sz mz bz tz cz hx hb hr hml hown hts hlocks hK A hAe hP hD hS ls hl
  have hl : lv_has ls 2 [(0, .ref (r 0))] := hl
  have f12 := hts (.fieldLink RX4 12 "WhisperRing" "script" "LWhisperRing$Script;") (by decide +kernel)
  have f56 := hts (.fieldLink RX4 56 "WhisperRing$Script" "size" "I") (by decide +kernel)
  refine lv_aload_n hx hb dX4_clear_0 rfl (lv_at hl 0 rfl) ?_
  refine va_get (D := G.1) (ci := 4) (v := .ref (b 0)) (C := RX4) (T := TX4) (N := 8) hx hb hts i_X4_clear_X4 hown hK.1 hP 0 rfl rfl 0 (by decide) f12 (fun _ h9 => h9) rfl dX4_clear_1 ?_
  refine va_get (D := G.1) (ci := 3) (v := .int sc.size) (C := RX3) (T := TX3) (N := 7) hx hb hts i_X4_clear_X3 hown hK.1 hP 1 rfl rfl 0 (by decide) f56 (fun _ h9 => h9) rfl dX4_clear_4 ?_
  refine lv_istore_n (lv' := [(1, .int sc.size), (0, .ref (r 0))]) hx hb dX4_clear_7 rfl hl (by decide) rfl (fun ls hl => ?_)
  refine lv_aload_n hx hb dX4_clear_8 rfl (lv_at hl 1 rfl) ?_
  refine va_get (D := G.1) (ci := 4) (v := .ref (b 0)) (C := RX4) (T := TX4) (N := 8) hx hb hts i_X4_clear_X4 hown hK.1 hP 0 rfl rfl 0 (by decide) f12 (fun _ h9 => h9) rfl dX4_clear_9 ?_
  refine lv_iconst (v := 0) hx hb dX4_clear_12 (by decide) ?_
  refine va_put (D := G.1) (ci := 3) (v := .int 0) (ty := .int) (C := RX3) (T := TX3) (N := 7) hx hb hts i_X4_clear_X3 tyX3 tyX3_ok nmX3 hown hK.1 hP hD hS 1 rfl rfl 0 (by decide) f56 (fun _ h9 => h9) rfl (by decide +kernel) rfl rfl (Nat.le_of_ble_eq_true rfl) dX4_clear_13 (fun H locs hP hD hS => ?_)
  have hP : va_P G.1 vwCl (wRi r b f a d tr ++ wSc b G.2.1 (0, sc.bytes, sc.next, sc.tokAt, sc.tok, sc.val, sc.told)) H := hP
  have hD : va_D A (wRi r b f a d tr ++ wSc b G.2.1 (0, sc.bytes, sc.next, sc.tokAt, sc.tok, sc.val, sc.told)) := hD
  refine lv_iload_n hx hb dX4_clear_16 rfl (lv_at hl 0 rfl) ?_
  exact g_wi hx hb hr hlocks hAe hP hS dX4_clear_17 rfl

theorem i_X4_gallery_X4 : ∀ w ∈ wsX40, w ∈ wsX4_gallery := by decide +kernel
theorem h_X4_gallery : yX4_gallery.cls = RX4 ∧ yX4_gallery.cls ≠ "java/lang/invoke/MethodHandle" ∧ yX4_gallery.cls ≠ "java/lang/invoke/VarHandle" ∧ (parseMethodDescriptor yX4_gallery.desc).map (fun d => d.parameters.length) = some 0 := by decide +kernel
set_option maxHeartbeats 4000000 in
set_option maxRecDepth 100000 in
theorem c_X4_gallery (lz : Launch) (G : gG) (r b f a d : Nat → Nat) (tr : Int64) (sc : ScS) (u : HeS) (ke : Nat → Int32) (g : HaS) (Z : Nat) (hz : sc.size = nI Z) (hZ : Z ≤ 120) (hneg : (rInto sc g).2.2 < 0) : gWr lz yX4_gallery wsX4_gallery 6 G [.ref (r 0)] (wRi r b f a d tr ++ wSc b G.2.1 sc ++ wHe f G.2.1 u ++ wAr (r 2) G.2.2.1 2 ke ++ wHa d G.2.1 g) (wRi r b f a d tr ++ wSc b G.2.1 (rInto sc g).1 ++ wHe f G.2.1 u ++ wAr (r 2) G.2.2.1 2 ke ++ wHa d G.2.1 (rInto sc g).2.1) (some (.int (rInto sc g).2.2)) := by
  refine g_wr (by decide) rfl (Nat.le_of_ble_eq_true rfl) ?_
  intro pz ez sz mz bz tz cz hx hb hr hml hown hts hlocks hK A hAe hP hD hS ls hl
  have hl : lv_has ls 4 [(0, .ref (r 0))] := hl
  have f12 := hts (.fieldLink RX4 12 "WhisperRing" "script" "LWhisperRing$Script;") (by decide +kernel)
  have f45 := hts (.fieldLink RX4 45 "WhisperRing" "draft" "LWhisperRing$Hall;") (by decide +kernel)
  refine lv_aload_n hx hb dX4_gallery_0 rfl (lv_at hl 0 rfl) ?_
  refine va_get (D := G.1) (ci := 4) (v := .ref (b 0)) (C := RX4) (T := TX4) (N := 8) hx hb hts i_X4_gallery_X4 hown hK.1 hP 0 rfl rfl 0 (by decide) f12 (fun _ h9 => h9) rfl dX4_gallery_1 ?_
  refine lv_aload_n hx hb dX4_gallery_4 rfl (lv_at hl 0 rfl) ?_
  refine va_get (D := G.1) (ci := 4) (v := .ref (d 0)) (C := RX4) (T := TX4) (N := 8) hx hb hts i_X4_gallery_X4 hown hK.1 hP 0 rfl rfl 6 (by decide) f45 (fun _ h9 => h9) rfl dX4_gallery_5 ?_
  refine g_wrV (As := [.ref (d 0)]) (rest := []) (nL := 4) hx hb hml hown hts (c_X3_readInto lz G b d sc g Z hz hZ) gX4_gallery_X3_readInto rfl h_X3_readInto ⟨Nat.le_of_ble_eq_true rfl, Nat.le_of_ble_eq_true rfl⟩ hK hP hD hS [1, 2, 8, 9, 10, 11, 12, 13, 14, 15, 16, 17] rfl rfl rfl (ws1 := wRi r b f a d tr ++ wSc b G.2.1 ((rInto sc g).1) ++ wHe f G.2.1 u ++ wAr (r 2) G.2.2.1 2 ke ++ wHa d G.2.1 ((rInto sc g).2.1)) rfl [r 0, b 0, b 1, f 0, f 1, f 2, f 3, r 2, d 0, d 1, d 2, d 3, d 4, d 5, d 6, d 7, d 8, d 9] rfl rfl (ci := 3) rfl rfl rfl rfl hl.1 rfl (Nat.le_of_ble_eq_true rfl) ⟨Nat.le_refl _, Nat.le_refl _⟩ dX4_gallery_8 (fun H locs hP hD hS => ?_)
  refine lv_istore_n (lv' := [(1, .int ((rInto sc g).2.2)), (0, .ref (r 0))]) hx hb dX4_gallery_11 rfl hl (by decide) rfl (fun ls hl => ?_)
  refine lv_iload_n hx hb dX4_gallery_12 rfl (lv_at hl 0 rfl) ?_
  refine lv_if_ge (tgt := 18) hx hb dX4_gallery_13 (by decide) (fun c_1 => absurd hneg (gl_le c_1)) (fun c_1 => ?_)
  have c_1 := gl_nle c_1
  refine lv_iload_n hx hb dX4_gallery_16 rfl (lv_at hl 0 rfl) ?_
  exact g_wi hx hb hr hlocks hAe hP hS dX4_gallery_17 rfl

theorem iT_X4_gallery_X1 : ∀ w ∈ wsX10, w ∈ wsX4_gallery := by decide +kernel
theorem iT_X4_gallery_X3 : ∀ w ∈ wsX30, w ∈ wsX4_gallery := by decide +kernel
theorem iT_X4_gallery_X4 : ∀ w ∈ wsX40, w ∈ wsX4_gallery := by decide +kernel
set_option maxHeartbeats 4000000 in
set_option maxRecDepth 100000 in
theorem cT_X4_gallery (lz : Launch) (G : gG) (r b f a d : Nat → Nat) (tr : Int64) (sc : ScS) (u : HeS) (ke : Nat → Int32) (g : HaS) (Z : Nat) (hz : sc.size = nI Z) (hZ : Z ≤ 120) (hpos : ¬ (rInto sc g).2.2 < 0) : gWr lz yX4_gallery wsX4_gallery 6 G [.ref (r 0)] (wRi r b f a d tr ++ wSc b G.2.1 sc ++ wHe f G.2.1 u ++ wAr (r 2) G.2.2.1 2 ke ++ wHa d G.2.1 g) (wRi r b f d a tr ++ wSc b G.2.1 (xGaSc (rInto sc g).1) ++ wHe f G.2.1 (0, u.ats, u.beh, u.the) ++ wAr (r 2) G.2.2.1 2 (upd (upd ke 0 0) 1 0) ++ wHa d G.2.1 (rInto sc g).2.1) (some (.int (rInto sc g).2.2)) := by
  refine g_wr (by decide) rfl (Nat.le_of_ble_eq_true rfl) ?_
  intro pz ez sz mz bz tz cz hx hb hr hml hown hts hlocks hK A hAe hP hD hS ls hl
  have hl : lv_has ls 4 [(0, .ref (r 0))] := hl
  have f12 := hts (.fieldLink RX4 12 "WhisperRing" "script" "LWhisperRing$Script;") (by decide +kernel)
  have f19 := hts (.fieldLink RX4 19 "WhisperRing" "hearsay" "LWhisperRing$Hearsay;") (by decide +kernel)
  have f30 := hts (.fieldLink RX4 30 "WhisperRing" "kept" "[Z") (by decide +kernel)
  have f41 := hts (.fieldLink RX4 41 "WhisperRing" "hall" "LWhisperRing$Hall;") (by decide +kernel)
  have f45 := hts (.fieldLink RX4 45 "WhisperRing" "draft" "LWhisperRing$Hall;") (by decide +kernel)
  have f56 := hts (.fieldLink RX4 56 "WhisperRing$Script" "size" "I") (by decide +kernel)
  have f64 := hts (.fieldLink RX4 64 "WhisperRing$Hearsay" "size" "I") (by decide +kernel)
  refine lv_aload_n hx hb dX4_gallery_0 rfl (lv_at hl 0 rfl) ?_
  refine va_get (D := G.1) (ci := 4) (v := .ref (b 0)) (C := RX4) (T := TX4) (N := 8) hx hb hts iT_X4_gallery_X4 hown hK.1 hP 0 rfl rfl 0 (by decide) f12 (fun _ h9 => h9) rfl dX4_gallery_1 ?_
  refine lv_aload_n hx hb dX4_gallery_4 rfl (lv_at hl 0 rfl) ?_
  refine va_get (D := G.1) (ci := 4) (v := .ref (d 0)) (C := RX4) (T := TX4) (N := 8) hx hb hts iT_X4_gallery_X4 hown hK.1 hP 0 rfl rfl 6 (by decide) f45 (fun _ h9 => h9) rfl dX4_gallery_5 ?_
  refine g_wrV (As := [.ref (d 0)]) (rest := []) (nL := 4) hx hb hml hown hts (c_X3_readInto lz G b d sc g Z hz hZ) gX4_gallery_X3_readInto rfl h_X3_readInto ⟨Nat.le_of_ble_eq_true rfl, Nat.le_of_ble_eq_true rfl⟩ hK hP hD hS [1, 2, 8, 9, 10, 11, 12, 13, 14, 15, 16, 17] rfl rfl rfl (ws1 := wRi r b f a d tr ++ wSc b G.2.1 ((rInto sc g).1) ++ wHe f G.2.1 u ++ wAr (r 2) G.2.2.1 2 ke ++ wHa d G.2.1 ((rInto sc g).2.1)) rfl [r 0, b 0, b 1, f 0, f 1, f 2, f 3, r 2, d 0, d 1, d 2, d 3, d 4, d 5, d 6, d 7, d 8, d 9] rfl rfl (ci := 3) rfl rfl rfl rfl hl.1 rfl (Nat.le_of_ble_eq_true rfl) ⟨Nat.le_refl _, Nat.le_refl _⟩ dX4_gallery_8 (fun H locs hP hD hS => ?_)
  refine lv_istore_n (lv' := [(1, .int ((rInto sc g).2.2)), (0, .ref (r 0))]) hx hb dX4_gallery_11 rfl hl (by decide) rfl (fun ls hl => ?_)
  refine lv_iload_n hx hb dX4_gallery_12 rfl (lv_at hl 0 rfl) ?_
  refine lv_if_ge (tgt := 18) hx hb dX4_gallery_13 (by decide) (fun c_1 => ?_) (fun c_1 => absurd (gl_nle c_1) hpos)
  have c_1 := gl_le c_1
  refine lv_aload_n hx hb dX4_gallery_18 rfl (lv_at hl 1 rfl) ?_
  refine va_get (D := G.1) (ci := 4) (v := .ref (a 0)) (C := RX4) (T := TX4) (N := 8) hx hb hts iT_X4_gallery_X4 hown hK.1 hP 0 rfl rfl 5 (by decide) f41 (fun _ h9 => h9) rfl dX4_gallery_19 ?_
  refine lv_astore_n (lv' := [(2, .ref (a 0)), (1, .int ((rInto sc g).2.2)), (0, .ref (r 0))]) hx hb dX4_gallery_22 rfl hl (by decide) rfl (fun ls hl => ?_)
  refine lv_aload_n hx hb dX4_gallery_23 rfl (lv_at hl 2 rfl) ?_
  refine lv_aload_n hx hb dX4_gallery_24 rfl (lv_at hl 2 rfl) ?_
  refine va_get (D := G.1) (ci := 4) (v := .ref (d 0)) (C := RX4) (T := TX4) (N := 8) hx hb hts iT_X4_gallery_X4 hown hK.1 hP 0 rfl rfl 6 (by decide) f45 (fun _ h9 => h9) rfl dX4_gallery_25 ?_
  refine va_put (D := G.1) (ci := 4) (v := .ref (d 0)) (ty := (.object "WhisperRing$Hall")) (C := RX4) (T := TX4) (N := 8) hx hb hts iT_X4_gallery_X4 tyX4 tyX4_ok nmX4 hown hK.1 hP hD hS 0 rfl rfl 5 (by decide) f41 (fun _ h9 => h9) rfl (by decide +kernel) rfl rfl (Nat.le_of_ble_eq_true rfl) dX4_gallery_28 (fun H locs hP hD hS => ?_)
  have hP : va_P G.1 vwCl (wRi r b f d d tr ++ wSc b G.2.1 ((rInto sc g).1) ++ wHe f G.2.1 u ++ wAr (r 2) G.2.2.1 2 ke ++ wHa d G.2.1 ((rInto sc g).2.1)) H := hP
  have hD : va_D A (wRi r b f d d tr ++ wSc b G.2.1 ((rInto sc g).1) ++ wHe f G.2.1 u ++ wAr (r 2) G.2.2.1 2 ke ++ wHa d G.2.1 ((rInto sc g).2.1)) := hD
  refine lv_aload_n hx hb dX4_gallery_31 rfl (lv_at hl 2 rfl) ?_
  refine lv_aload_n hx hb dX4_gallery_32 rfl (lv_at hl 0 rfl) ?_
  refine va_put (D := G.1) (ci := 4) (v := .ref (a 0)) (ty := (.object "WhisperRing$Hall")) (C := RX4) (T := TX4) (N := 8) hx hb hts iT_X4_gallery_X4 tyX4 tyX4_ok nmX4 hown hK.1 hP hD hS 0 rfl rfl 6 (by decide) f45 (fun _ h9 => h9) rfl (by decide +kernel) rfl rfl (Nat.le_of_ble_eq_true rfl) dX4_gallery_33 (fun H locs hP hD hS => ?_)
  have hP : va_P G.1 vwCl (wRi r b f d a tr ++ wSc b G.2.1 ((rInto sc g).1) ++ wHe f G.2.1 u ++ wAr (r 2) G.2.2.1 2 ke ++ wHa d G.2.1 ((rInto sc g).2.1)) H := hP
  have hD : va_D A (wRi r b f d a tr ++ wSc b G.2.1 ((rInto sc g).1) ++ wHe f G.2.1 u ++ wAr (r 2) G.2.2.1 2 ke ++ wHa d G.2.1 ((rInto sc g).2.1)) := hD
  refine lv_aload_n hx hb dX4_gallery_36 rfl (lv_at hl 2 rfl) ?_
  refine va_get (D := G.1) (ci := 4) (v := .ref (b 0)) (C := RX4) (T := TX4) (N := 8) hx hb hts iT_X4_gallery_X4 hown hK.1 hP 0 rfl rfl 0 (by decide) f12 (fun _ h9 => h9) rfl dX4_gallery_37 ?_
  refine lv_iconst (v := 0) hx hb dX4_gallery_40 (by decide) ?_
  refine va_put (D := G.1) (ci := 3) (v := .int 0) (ty := .int) (C := RX3) (T := TX3) (N := 7) hx hb hts iT_X4_gallery_X3 tyX3 tyX3_ok nmX3 hown hK.1 hP hD hS 1 rfl rfl 0 (by decide) f56 (fun _ h9 => h9) rfl (by decide +kernel) rfl rfl (Nat.le_of_ble_eq_true rfl) dX4_gallery_41 (fun H locs hP hD hS => ?_)
  have hP : va_P G.1 vwCl (wRi r b f d a tr ++ wSc b G.2.1 (0, ((rInto sc g).1).bytes, ((rInto sc g).1).next, ((rInto sc g).1).tokAt, ((rInto sc g).1).tok, ((rInto sc g).1).val, ((rInto sc g).1).told) ++ wHe f G.2.1 u ++ wAr (r 2) G.2.2.1 2 ke ++ wHa d G.2.1 ((rInto sc g).2.1)) H := hP
  have hD : va_D A (wRi r b f d a tr ++ wSc b G.2.1 (0, ((rInto sc g).1).bytes, ((rInto sc g).1).next, ((rInto sc g).1).tokAt, ((rInto sc g).1).tok, ((rInto sc g).1).val, ((rInto sc g).1).told) ++ wHe f G.2.1 u ++ wAr (r 2) G.2.2.1 2 ke ++ wHa d G.2.1 ((rInto sc g).2.1)) := hD
  refine lv_aload_n hx hb dX4_gallery_44 rfl (lv_at hl 2 rfl) ?_
  refine va_get (D := G.1) (ci := 4) (v := .ref (f 0)) (C := RX4) (T := TX4) (N := 8) hx hb hts iT_X4_gallery_X4 hown hK.1 hP 0 rfl rfl 1 (by decide) f19 (fun _ h9 => h9) rfl dX4_gallery_45 ?_
  refine lv_iconst (v := 0) hx hb dX4_gallery_48 (by decide) ?_
  refine va_put (D := G.1) (ci := 1) (v := .int 0) (ty := .int) (C := RX1) (T := TX1) (N := 4) hx hb hts iT_X4_gallery_X1 tyX1 tyX1_ok nmX1 hown hK.1 hP hD hS 3 rfl rfl 0 (by decide) f64 (fun _ h9 => h9) rfl (by decide +kernel) rfl rfl (Nat.le_of_ble_eq_true rfl) dX4_gallery_49 (fun H locs hP hD hS => ?_)
  have hP : va_P G.1 vwCl (wRi r b f d a tr ++ wSc b G.2.1 (0, ((rInto sc g).1).bytes, ((rInto sc g).1).next, ((rInto sc g).1).tokAt, ((rInto sc g).1).tok, ((rInto sc g).1).val, ((rInto sc g).1).told) ++ wHe f G.2.1 (0, u.ats, u.beh, u.the) ++ wAr (r 2) G.2.2.1 2 ke ++ wHa d G.2.1 ((rInto sc g).2.1)) H := hP
  have hD : va_D A (wRi r b f d a tr ++ wSc b G.2.1 (0, ((rInto sc g).1).bytes, ((rInto sc g).1).next, ((rInto sc g).1).tokAt, ((rInto sc g).1).tok, ((rInto sc g).1).val, ((rInto sc g).1).told) ++ wHe f G.2.1 (0, u.ats, u.beh, u.the) ++ wAr (r 2) G.2.2.1 2 ke ++ wHa d G.2.1 ((rInto sc g).2.1)) := hD
  refine lv_iconst (v := 0) hx hb dX4_gallery_52 (by decide) ?_
  refine lv_istore_n (lv' := [(3, .int 0), (2, .ref (a 0)), (1, .int ((rInto sc g).2.2)), (0, .ref (r 0))]) hx hb dX4_gallery_53 rfl hl (by decide) rfl (fun ls hl => ?_)
  refine lv_iload_n hx hb dX4_gallery_54 rfl (lv_at hl 0 rfl) ?_
  refine lv_iconst (v := 2) hx hb dX4_gallery_55 (by decide) ?_
  refine lv_icmp_ge (tgt := 72) hx hb dX4_gallery_56 (by decide) (fun c_2 => False.elim (by revert c_2; decide)) (fun c_2 => ?_)
  have c_2 := gl_nle c_2
  refine lv_aload_n hx hb dX4_gallery_59 rfl (lv_at hl 3 rfl) ?_
  refine va_get (D := G.1) (ci := 4) (v := .ref (r 2)) (C := RX4) (T := TX4) (N := 8) hx hb hts iT_X4_gallery_X4 hown hK.1 hP 0 rfl rfl 3 (by decide) f30 (fun _ h9 => h9) rfl dX4_gallery_60 ?_
  refine lv_iload_n hx hb dX4_gallery_63 rfl (lv_at hl 0 rfl) ?_
  refine g_top (y := nI 0) (rfl) ?_
  refine lv_iconst (v := 0) hx hb dX4_gallery_64 (by decide) ?_
  refine g_zast hx hb hK.1 hP hD hS 7 1 rfl rfl (i := 0) (by omega) (by decide) rfl dX4_gallery_65 (fun H locs hP hD hS => ?_)
  have hP : va_P G.1 vwCl (wRi r b f d a tr ++ wSc b G.2.1 (0, ((rInto sc g).1).bytes, ((rInto sc g).1).next, ((rInto sc g).1).tokAt, ((rInto sc g).1).tok, ((rInto sc g).1).val, ((rInto sc g).1).told) ++ wHe f G.2.1 (0, u.ats, u.beh, u.the) ++ wAr (r 2) G.2.2.1 2 (upd ke 0 0) ++ wHa d G.2.1 ((rInto sc g).2.1)) H := hP
  have hD : va_D A (wRi r b f d a tr ++ wSc b G.2.1 (0, ((rInto sc g).1).bytes, ((rInto sc g).1).next, ((rInto sc g).1).tokAt, ((rInto sc g).1).tok, ((rInto sc g).1).val, ((rInto sc g).1).told) ++ wHe f G.2.1 (0, u.ats, u.beh, u.the) ++ wAr (r 2) G.2.2.1 2 (upd ke 0 0) ++ wHa d G.2.1 ((rInto sc g).2.1)) := hD
  refine lv_iinc (v := 1) (lv' := [(3, .int 1), (2, .ref (a 0)), (1, .int ((rInto sc g).2.2)), (0, .ref (r 0))]) hx hb dX4_gallery_66 hl (k := 0) rfl (by decide) (by decide) rfl (fun ls hl => ?_)
  refine lv_goto (tgt := 54) hx hb dX4_gallery_69 (by decide) ?_
  refine lv_iload_n hx hb dX4_gallery_54 rfl (lv_at hl 0 rfl) ?_
  refine lv_iconst (v := 2) hx hb dX4_gallery_55 (by decide) ?_
  refine lv_icmp_ge (tgt := 72) hx hb dX4_gallery_56 (by decide) (fun c_3 => False.elim (by revert c_3; decide)) (fun c_3 => ?_)
  have c_3 := gl_nle c_3
  refine lv_aload_n hx hb dX4_gallery_59 rfl (lv_at hl 3 rfl) ?_
  refine va_get (D := G.1) (ci := 4) (v := .ref (r 2)) (C := RX4) (T := TX4) (N := 8) hx hb hts iT_X4_gallery_X4 hown hK.1 hP 0 rfl rfl 3 (by decide) f30 (fun _ h9 => h9) rfl dX4_gallery_60 ?_
  refine lv_iload_n hx hb dX4_gallery_63 rfl (lv_at hl 0 rfl) ?_
  refine g_top (y := nI 1) (rfl) ?_
  refine lv_iconst (v := 0) hx hb dX4_gallery_64 (by decide) ?_
  refine g_zast hx hb hK.1 hP hD hS 7 1 rfl rfl (i := 1) (by omega) (by decide) rfl dX4_gallery_65 (fun H locs hP hD hS => ?_)
  have hP : va_P G.1 vwCl (wRi r b f d a tr ++ wSc b G.2.1 (0, ((rInto sc g).1).bytes, ((rInto sc g).1).next, ((rInto sc g).1).tokAt, ((rInto sc g).1).tok, ((rInto sc g).1).val, ((rInto sc g).1).told) ++ wHe f G.2.1 (0, u.ats, u.beh, u.the) ++ wAr (r 2) G.2.2.1 2 (upd (upd ke 0 0) 1 0) ++ wHa d G.2.1 ((rInto sc g).2.1)) H := hP
  have hD : va_D A (wRi r b f d a tr ++ wSc b G.2.1 (0, ((rInto sc g).1).bytes, ((rInto sc g).1).next, ((rInto sc g).1).tokAt, ((rInto sc g).1).tok, ((rInto sc g).1).val, ((rInto sc g).1).told) ++ wHe f G.2.1 (0, u.ats, u.beh, u.the) ++ wAr (r 2) G.2.2.1 2 (upd (upd ke 0 0) 1 0) ++ wHa d G.2.1 ((rInto sc g).2.1)) := hD
  refine lv_iinc (v := 2) (lv' := [(3, .int 2), (2, .ref (a 0)), (1, .int ((rInto sc g).2.2)), (0, .ref (r 0))]) hx hb dX4_gallery_66 hl (k := 0) rfl (by decide) (by decide) rfl (fun ls hl => ?_)
  refine lv_goto (tgt := 54) hx hb dX4_gallery_69 (by decide) ?_
  refine lv_iload_n hx hb dX4_gallery_54 rfl (lv_at hl 0 rfl) ?_
  refine lv_iconst (v := 2) hx hb dX4_gallery_55 (by decide) ?_
  refine lv_icmp_ge (tgt := 72) hx hb dX4_gallery_56 (by decide) (fun c_4 => ?_) (fun c_4 => False.elim (by revert c_4; decide))
  have c_4 := gl_le c_4
  refine lv_iload_n hx hb dX4_gallery_72 rfl (lv_at hl 2 rfl) ?_
  exact g_wi hx hb hr hlocks hAe hP hS dX4_gallery_73 rfl

theorem i_X4_saying_X0 : ∀ w ∈ wsX00, w ∈ wsX4_saying := by decide +kernel
theorem i_X4_saying_X2 : ∀ w ∈ wsX20, w ∈ wsX4_saying := by decide +kernel
theorem i_X4_saying_X4 : ∀ w ∈ wsX40, w ∈ wsX4_saying := by decide +kernel
theorem h_X4_saying : yX4_saying.cls = RX4 ∧ yX4_saying.cls ≠ "java/lang/invoke/MethodHandle" ∧ yX4_saying.cls ≠ "java/lang/invoke/VarHandle" ∧ (parseMethodDescriptor yX4_saying.desc).map (fun d => d.parameters.length) = some 2 := by decide +kernel
set_option maxHeartbeats 4000000 in
set_option maxRecDepth 100000 in
theorem c_X4_saying (lz : Launch) (G : gG) (r b f a d : Nat → Nat) (tr : Int64) (h : HaS) (n : Nat) (s what : Int32) (hn : h.mo.sayings = nI n) (hn8 : n ≤ 8) : gRd lz yX4_saying wsX4_saying 4 G [.ref (r 0), .int s, .int what] (wRi r b f a d tr ++ wHa a G.2.1 h) (xSayR h s what) := by
  refine g_rd (by decide) rfl (Nat.le_of_ble_eq_true rfl) ?_
  intro pz ez sz mz bz tz cz hx hb hr hml hown hts hlocks hP hK ls hl
  have hl : lv_has ls 4 [(0, .ref (r 0)), (1, .int s), (2, .int what)] := hl
  have f41 := hts (.fieldLink RX4 41 "WhisperRing" "hall" "LWhisperRing$Hall;") (by decide +kernel)
  have f68 := hts (.fieldLink RX4 68 "WhisperRing$Hall" "now" "LWhisperRing$Moment;") (by decide +kernel)
  have f72 := hts (.fieldLink RX4 72 "WhisperRing$Moment" "from" "[I") (by decide +kernel)
  have f75 := hts (.fieldLink RX4 75 "WhisperRing$Moment" "speed" "[I") (by decide +kernel)
  have f78 := hts (.fieldLink RX4 78 "WhisperRing$Moment" "way" "[I") (by decide +kernel)
  have f81 := hts (.fieldLink RX4 81 "WhisperRing$Moment" "loud" "[I") (by decide +kernel)
  refine lv_aload_n hx hb dX4_saying_0 rfl (lv_at hl 0 rfl) ?_
  refine va_get (D := G.1) (ci := 4) (v := .ref (a 0)) (C := RX4) (T := TX4) (N := 8) hx hb hts i_X4_saying_X4 hown hK.1 hP 0 rfl rfl 5 (by decide) f41 (fun _ h9 => h9) rfl dX4_saying_1 ?_
  refine lv_iload_n hx hb dX4_saying_4 rfl (lv_at hl 1 rfl) ?_
  refine g_rdV (As := [.int s]) (rest := []) (nL := 4) hx hb hml hown hts (c_X0_hasSaying lz G a h s) gX4_saying_X0_hasSaying rfl h_X0_hasSaying ⟨Nat.le_of_ble_eq_true rfl, Nat.le_of_ble_eq_true rfl⟩ hK (hP.sub [1, 2, 3, 4, 5, 6, 7, 8, 9, 10] rfl) (ci := 0) rfl rfl rfl rfl hl.1 rfl (Nat.le_of_ble_eq_true rfl) ⟨Nat.le_refl _, Nat.le_refl _⟩ dX4_saying_5 ?_
  refine lv_if_ne (tgt := 13) hx hb dX4_saying_8 (by decide) (fun c_1 => ?_) (fun c_1 => ?_)
  · skip
    have c_1 := bI_1 c_1
    obtain ⟨hj, hsj⟩ := wIn_nat hn hn8 c_1
    refine lv_aload_n hx hb dX4_saying_13 rfl (lv_at hl 0 rfl) ?_
    refine va_get (D := G.1) (ci := 4) (v := .ref (a 0)) (C := RX4) (T := TX4) (N := 8) hx hb hts i_X4_saying_X4 hown hK.1 hP 0 rfl rfl 5 (by decide) f41 (fun _ h9 => h9) rfl dX4_saying_14 ?_
    refine va_get (D := G.1) (ci := 0) (v := .ref (a 1)) (C := RX0) (T := TX0) (N := 6) hx hb hts i_X4_saying_X0 hown hK.1 hP 1 rfl rfl 3 (by decide) f68 (fun _ h9 => h9) rfl dX4_saying_17 ?_
    refine lv_astore_n (lv' := [(3, .ref (a 1)), (0, .ref (r 0)), (1, .int s), (2, .int what)]) hx hb dX4_saying_20 rfl hl (by decide) rfl (fun ls hl => ?_)
    refine lv_iload_n hx hb dX4_saying_21 rfl (lv_at hl 3 rfl) ?_
    by_cases k_2 : what = 0
    · refine lv_tableIn (tgt := 72) hx hb dX4_saying_22 (by rw [k_2]; decide) (by rw [k_2]; decide) (by rw [k_2]; rfl) (by decide) ?_
      refine lv_aload_n hx hb dX4_saying_72 rfl (lv_at hl 0 rfl) ?_
      refine va_get (D := G.1) (ci := 2) (v := .ref (a 2)) (C := RX2) (T := TX2) (N := 10) hx hb hts i_X4_saying_X2 hown hK.1 hP 2 rfl rfl 4 (by decide) f72 (fun _ h9 => h9) rfl dX4_saying_73 ?_
      refine lv_iload_n hx hb dX4_saying_76 rfl (lv_at hl 2 rfl) ?_
      refine g_top (y := nI s.toNatClampNeg) (hsj) ?_
      refine g_iald hx hb hK.1 hP 3 0 rfl rfl (i := s.toNatClampNeg) (by omega) (by decide) dX4_saying_77 ?_
      exact g_ri hx hb hr hlocks dX4_saying_78 (by rw [xSayR] <;> (first | done | rw [if_pos c_1] | rw [if_neg c_1] | rw [if_neg (by rw [c_1]; decide)] | skip) <;> (first | done | rw [if_pos k_2] | rw [if_neg k_2] | rw [if_neg (by rw [k_2]; decide)] | skip) <;> (first | done | rfl | (simp only [c_1, k_2]; rfl) | (simp [c_1, k_2, bI]; done)))
    · skip
      by_cases k_3 : what = 1
      · refine lv_tableIn (tgt := 79) hx hb dX4_saying_22 (by rw [k_3]; decide) (by rw [k_3]; decide) (by rw [k_3]; rfl) (by decide) ?_
        refine lv_aload_n hx hb dX4_saying_79 rfl (lv_at hl 0 rfl) ?_
        refine va_get (D := G.1) (ci := 2) (v := .ref (a 3)) (C := RX2) (T := TX2) (N := 10) hx hb hts i_X4_saying_X2 hown hK.1 hP 2 rfl rfl 5 (by decide) f75 (fun _ h9 => h9) rfl dX4_saying_80 ?_
        refine lv_iload_n hx hb dX4_saying_83 rfl (lv_at hl 2 rfl) ?_
        refine g_top (y := nI s.toNatClampNeg) (hsj) ?_
        refine g_iald hx hb hK.1 hP 4 0 rfl rfl (i := s.toNatClampNeg) (by omega) (by decide) dX4_saying_84 ?_
        exact g_ri hx hb hr hlocks dX4_saying_85 (by rw [xSayR] <;> (first | done | rw [if_pos c_1] | rw [if_neg c_1] | rw [if_neg (by rw [c_1]; decide)] | skip) <;> (first | done | rw [if_pos k_2] | rw [if_neg k_2] | rw [if_neg (by rw [k_2]; decide)] | skip) <;> (first | done | rw [if_pos k_3] | rw [if_neg k_3] | rw [if_neg (by rw [k_3]; decide)] | skip) <;> (first | done | rfl | (simp only [c_1, k_2, k_3]; rfl) | (simp [c_1, k_2, k_3, bI]; done)))
      · skip
        by_cases k_4 : what = 2
        · refine lv_tableIn (tgt := 86) hx hb dX4_saying_22 (by rw [k_4]; decide) (by rw [k_4]; decide) (by rw [k_4]; rfl) (by decide) ?_
          refine lv_aload_n hx hb dX4_saying_86 rfl (lv_at hl 0 rfl) ?_
          refine va_get (D := G.1) (ci := 2) (v := .ref (a 4)) (C := RX2) (T := TX2) (N := 10) hx hb hts i_X4_saying_X2 hown hK.1 hP 2 rfl rfl 6 (by decide) f78 (fun _ h9 => h9) rfl dX4_saying_87 ?_
          refine lv_iload_n hx hb dX4_saying_90 rfl (lv_at hl 2 rfl) ?_
          refine g_top (y := nI s.toNatClampNeg) (hsj) ?_
          refine g_iald hx hb hK.1 hP 5 0 rfl rfl (i := s.toNatClampNeg) (by omega) (by decide) dX4_saying_91 ?_
          exact g_ri hx hb hr hlocks dX4_saying_92 (by rw [xSayR] <;> (first | done | rw [if_pos c_1] | rw [if_neg c_1] | rw [if_neg (by rw [c_1]; decide)] | skip) <;> (first | done | rw [if_pos k_2] | rw [if_neg k_2] | rw [if_neg (by rw [k_2]; decide)] | skip) <;> (first | done | rw [if_pos k_3] | rw [if_neg k_3] | rw [if_neg (by rw [k_3]; decide)] | skip) <;> (first | done | rw [if_pos k_4] | rw [if_neg k_4] | rw [if_neg (by rw [k_4]; decide)] | skip) <;> (first | done | rfl | (simp only [c_1, k_2, k_3, k_4]; rfl) | (simp [c_1, k_2, k_3, k_4, bI]; done)))
        · skip
          by_cases k_5 : what = 3
          · refine lv_tableIn (tgt := 93) hx hb dX4_saying_22 (by rw [k_5]; decide) (by rw [k_5]; decide) (by rw [k_5]; rfl) (by decide) ?_
            refine lv_aload_n hx hb dX4_saying_93 rfl (lv_at hl 0 rfl) ?_
            refine va_get (D := G.1) (ci := 2) (v := .ref (a 5)) (C := RX2) (T := TX2) (N := 10) hx hb hts i_X4_saying_X2 hown hK.1 hP 2 rfl rfl 7 (by decide) f81 (fun _ h9 => h9) rfl dX4_saying_94 ?_
            refine lv_iload_n hx hb dX4_saying_97 rfl (lv_at hl 2 rfl) ?_
            refine g_top (y := nI s.toNatClampNeg) (hsj) ?_
            refine g_iald hx hb hK.1 hP 6 0 rfl rfl (i := s.toNatClampNeg) (by omega) (by decide) dX4_saying_98 ?_
            exact g_ri hx hb hr hlocks dX4_saying_99 (by rw [xSayR] <;> (first | done | rw [if_pos c_1] | rw [if_neg c_1] | rw [if_neg (by rw [c_1]; decide)] | skip) <;> (first | done | rw [if_pos k_2] | rw [if_neg k_2] | rw [if_neg (by rw [k_2]; decide)] | skip) <;> (first | done | rw [if_pos k_3] | rw [if_neg k_3] | rw [if_neg (by rw [k_3]; decide)] | skip) <;> (first | done | rw [if_pos k_4] | rw [if_neg k_4] | rw [if_neg (by rw [k_4]; decide)] | skip) <;> (first | done | rw [if_pos k_5] | rw [if_neg k_5] | rw [if_neg (by rw [k_5]; decide)] | skip) <;> (first | done | rfl | (simp only [c_1, k_2, k_3, k_4, k_5]; rfl) | (simp [c_1, k_2, k_3, k_4, k_5, bI]; done)))
          · skip
            by_cases k_6 : what = 4
            · refine lv_tableIn (tgt := 100) hx hb dX4_saying_22 (by rw [k_6]; decide) (by rw [k_6]; decide) (by rw [k_6]; rfl) (by decide) ?_
              refine lv_aload_n hx hb dX4_saying_100 rfl (lv_at hl 1 rfl) ?_
              refine va_get (D := G.1) (ci := 4) (v := .ref (a 0)) (C := RX4) (T := TX4) (N := 8) hx hb hts i_X4_saying_X4 hown hK.1 hP 0 rfl rfl 5 (by decide) f41 (fun _ h9 => h9) rfl dX4_saying_101 ?_
              refine lv_iload_n hx hb dX4_saying_104 rfl (lv_at hl 2 rfl) ?_
              refine g_top (y := nI s.toNatClampNeg) (hsj) ?_
              refine lv_iconst (v := 0) hx hb dX4_saying_105 (by decide) ?_
              refine g_rdV (As := [.int (nI s.toNatClampNeg), .int 0]) (rest := []) (nL := 4) hx hb hml hown hts (c_X0_placeAfter lz G a h s.toNatClampNeg 0 (by omega)) gX4_saying_X0_placeAfter rfl h_X0_placeAfter ⟨Nat.le_of_ble_eq_true rfl, Nat.le_of_ble_eq_true rfl⟩ hK (hP.sub [1, 2, 3, 4, 5, 6, 7, 8, 9, 10] rfl) (ci := 0) rfl rfl rfl rfl hl.1 rfl (Nat.le_of_ble_eq_true rfl) ⟨Nat.le_refl _, Nat.le_refl _⟩ dX4_saying_106 ?_
              exact g_ri hx hb hr hlocks dX4_saying_109 (by rw [xSayR] <;> (first | done | rw [if_pos c_1] | rw [if_neg c_1] | rw [if_neg (by rw [c_1]; decide)] | skip) <;> (first | done | rw [if_pos k_2] | rw [if_neg k_2] | rw [if_neg (by rw [k_2]; decide)] | skip) <;> (first | done | rw [if_pos k_3] | rw [if_neg k_3] | rw [if_neg (by rw [k_3]; decide)] | skip) <;> (first | done | rw [if_pos k_4] | rw [if_neg k_4] | rw [if_neg (by rw [k_4]; decide)] | skip) <;> (first | done | rw [if_pos k_5] | rw [if_neg k_5] | rw [if_neg (by rw [k_5]; decide)] | skip) <;> (first | done | rw [if_pos k_6] | rw [if_neg k_6] | rw [if_neg (by rw [k_6]; decide)] | skip) <;> (first | done | rfl | (simp only [c_1, k_2, k_3, k_4, k_5, k_6]; rfl) | (simp [c_1, k_2, k_3, k_4, k_5, k_6, bI]; done)))
            · skip
              by_cases k_7 : what = 5
              · refine lv_tableIn (tgt := 110) hx hb dX4_saying_22 (by rw [k_7]; decide) (by rw [k_7]; decide) (by rw [k_7]; rfl) (by decide) ?_
                refine lv_aload_n hx hb dX4_saying_110 rfl (lv_at hl 1 rfl) ?_
                refine va_get (D := G.1) (ci := 4) (v := .ref (a 0)) (C := RX4) (T := TX4) (N := 8) hx hb hts i_X4_saying_X4 hown hK.1 hP 0 rfl rfl 5 (by decide) f41 (fun _ h9 => h9) rfl dX4_saying_111 ?_
                refine lv_iload_n hx hb dX4_saying_114 rfl (lv_at hl 2 rfl) ?_
                refine g_top (y := nI s.toNatClampNeg) (hsj) ?_
                refine lv_iconst (v := 0) hx hb dX4_saying_115 (by decide) ?_
                refine g_rdV (As := [.int (nI s.toNatClampNeg), .int 0]) (rest := []) (nL := 4) hx hb hml hown hts (c_X0_lapsAfter lz G a h s.toNatClampNeg 0 (by omega)) gX4_saying_X0_lapsAfter rfl h_X0_lapsAfter ⟨Nat.le_of_ble_eq_true rfl, Nat.le_of_ble_eq_true rfl⟩ hK (hP.sub [1, 2, 3, 4, 5, 6, 7, 8, 9, 10] rfl) (ci := 0) rfl rfl rfl rfl hl.1 rfl (Nat.le_of_ble_eq_true rfl) ⟨Nat.le_refl _, Nat.le_refl _⟩ dX4_saying_116 ?_
                exact g_ri hx hb hr hlocks dX4_saying_119 (by rw [xSayR] <;> (first | done | rw [if_pos c_1] | rw [if_neg c_1] | rw [if_neg (by rw [c_1]; decide)] | skip) <;> (first | done | rw [if_pos k_2] | rw [if_neg k_2] | rw [if_neg (by rw [k_2]; decide)] | skip) <;> (first | done | rw [if_pos k_3] | rw [if_neg k_3] | rw [if_neg (by rw [k_3]; decide)] | skip) <;> (first | done | rw [if_pos k_4] | rw [if_neg k_4] | rw [if_neg (by rw [k_4]; decide)] | skip) <;> (first | done | rw [if_pos k_5] | rw [if_neg k_5] | rw [if_neg (by rw [k_5]; decide)] | skip) <;> (first | done | rw [if_pos k_6] | rw [if_neg k_6] | rw [if_neg (by rw [k_6]; decide)] | skip) <;> (first | done | rw [if_pos k_7] | rw [if_neg k_7] | rw [if_neg (by rw [k_7]; decide)] | skip) <;> (first | done | rfl | (simp only [c_1, k_2, k_3, k_4, k_5, k_6, k_7]; rfl) | (simp [c_1, k_2, k_3, k_4, k_5, k_6, k_7, bI]; done)))
              · skip
                by_cases k_8 : what = 6
                · refine lv_tableIn (tgt := 120) hx hb dX4_saying_22 (by rw [k_8]; decide) (by rw [k_8]; decide) (by rw [k_8]; rfl) (by decide) ?_
                  refine lv_aload_n hx hb dX4_saying_120 rfl (lv_at hl 1 rfl) ?_
                  refine va_get (D := G.1) (ci := 4) (v := .ref (a 0)) (C := RX4) (T := TX4) (N := 8) hx hb hts i_X4_saying_X4 hown hK.1 hP 0 rfl rfl 5 (by decide) f41 (fun _ h9 => h9) rfl dX4_saying_121 ?_
                  refine lv_iload_n hx hb dX4_saying_124 rfl (lv_at hl 2 rfl) ?_
                  refine g_top (y := nI s.toNatClampNeg) (hsj) ?_
                  refine lv_iconst (v := 0) hx hb dX4_saying_125 (by decide) ?_
                  refine g_rdV (As := [.int (nI s.toNatClampNeg), .int 0]) (rest := []) (nL := 4) hx hb hml hown hts (c_X0_strengthAfter lz G a h s.toNatClampNeg 0 (by omega)) gX4_saying_X0_strengthAfter rfl h_X0_strengthAfter ⟨Nat.le_of_ble_eq_true rfl, Nat.le_of_ble_eq_true rfl⟩ hK (hP.sub [1, 2, 3, 4, 5, 6, 7, 8, 9, 10] rfl) (ci := 0) rfl rfl rfl rfl hl.1 rfl (Nat.le_of_ble_eq_true rfl) ⟨Nat.le_refl _, Nat.le_refl _⟩ dX4_saying_126 ?_
                  exact g_ri hx hb hr hlocks dX4_saying_129 (by rw [xSayR] <;> (first | done | rw [if_pos c_1] | rw [if_neg c_1] | rw [if_neg (by rw [c_1]; decide)] | skip) <;> (first | done | rw [if_pos k_2] | rw [if_neg k_2] | rw [if_neg (by rw [k_2]; decide)] | skip) <;> (first | done | rw [if_pos k_3] | rw [if_neg k_3] | rw [if_neg (by rw [k_3]; decide)] | skip) <;> (first | done | rw [if_pos k_4] | rw [if_neg k_4] | rw [if_neg (by rw [k_4]; decide)] | skip) <;> (first | done | rw [if_pos k_5] | rw [if_neg k_5] | rw [if_neg (by rw [k_5]; decide)] | skip) <;> (first | done | rw [if_pos k_6] | rw [if_neg k_6] | rw [if_neg (by rw [k_6]; decide)] | skip) <;> (first | done | rw [if_pos k_7] | rw [if_neg k_7] | rw [if_neg (by rw [k_7]; decide)] | skip) <;> (first | done | rw [if_pos k_8] | rw [if_neg k_8] | rw [if_neg (by rw [k_8]; decide)] | skip) <;> (first | done | rfl | (simp only [c_1, k_2, k_3, k_4, k_5, k_6, k_7, k_8]; rfl) | (simp [c_1, k_2, k_3, k_4, k_5, k_6, k_7, k_8, bI]; done)))
                · skip
                  by_cases k_9 : what = 7
                  · refine lv_tableIn (tgt := 130) hx hb dX4_saying_22 (by rw [k_9]; decide) (by rw [k_9]; decide) (by rw [k_9]; rfl) (by decide) ?_
                    refine lv_aload_n hx hb dX4_saying_130 rfl (lv_at hl 0 rfl) ?_
                    refine lv_iload_n hx hb dX4_saying_131 rfl (lv_at hl 2 rfl) ?_
                    refine g_rdV (As := [.int s]) (rest := []) (nL := 4) hx hb hml hown hts (c_X2_isHushed lz G (sh 1 a) h.mo s) gX4_saying_X2_isHushed rfl h_X2_isHushed ⟨Nat.le_of_ble_eq_true rfl, Nat.le_of_ble_eq_true rfl⟩ hK (hP.sub [2, 3, 4, 5, 6, 7, 8] rfl) (ci := 2) rfl rfl rfl rfl hl.1 rfl (Nat.le_of_ble_eq_true rfl) ⟨Nat.le_refl _, Nat.le_refl _⟩ dX4_saying_132 ?_
                    refine lv_if_eq (tgt := 142) hx hb dX4_saying_135 (by decide) (fun c_10 => ?_) (fun c_10 => ?_)
                    · skip
                      have c_10 := bI_0 c_10
                      refine lv_iconst (v := 0) hx hb dX4_saying_142 (by decide) ?_
                      exact g_ri hx hb hr hlocks dX4_saying_143 (by rw [xSayR] <;> (first | done | rw [if_pos c_1] | rw [if_neg c_1] | rw [if_neg (by rw [c_1]; decide)] | skip) <;> (first | done | rw [if_pos k_2] | rw [if_neg k_2] | rw [if_neg (by rw [k_2]; decide)] | skip) <;> (first | done | rw [if_pos k_3] | rw [if_neg k_3] | rw [if_neg (by rw [k_3]; decide)] | skip) <;> (first | done | rw [if_pos k_4] | rw [if_neg k_4] | rw [if_neg (by rw [k_4]; decide)] | skip) <;> (first | done | rw [if_pos k_5] | rw [if_neg k_5] | rw [if_neg (by rw [k_5]; decide)] | skip) <;> (first | done | rw [if_pos k_6] | rw [if_neg k_6] | rw [if_neg (by rw [k_6]; decide)] | skip) <;> (first | done | rw [if_pos k_7] | rw [if_neg k_7] | rw [if_neg (by rw [k_7]; decide)] | skip) <;> (first | done | rw [if_pos k_8] | rw [if_neg k_8] | rw [if_neg (by rw [k_8]; decide)] | skip) <;> (first | done | rw [if_pos k_9] | rw [if_neg k_9] | rw [if_neg (by rw [k_9]; decide)] | skip) <;> (first | done | rw [if_pos c_10] | rw [if_neg c_10] | rw [if_neg (by rw [c_10]; decide)] | skip) <;> (first | done | rfl | (simp only [c_1, k_2, k_3, k_4, k_5, k_6, k_7, k_8, k_9, c_10]; rfl) | (simp [c_1, k_2, k_3, k_4, k_5, k_6, k_7, k_8, k_9, c_10, bI]; done)))
                    · skip
                      have c_10 := bI_1 c_10
                      refine lv_iconst (v := 1) hx hb dX4_saying_138 (by decide) ?_
                      refine lv_goto (tgt := 143) hx hb dX4_saying_139 (by decide) ?_
                      exact g_ri hx hb hr hlocks dX4_saying_143 (by rw [xSayR] <;> (first | done | rw [if_pos c_1] | rw [if_neg c_1] | rw [if_neg (by rw [c_1]; decide)] | skip) <;> (first | done | rw [if_pos k_2] | rw [if_neg k_2] | rw [if_neg (by rw [k_2]; decide)] | skip) <;> (first | done | rw [if_pos k_3] | rw [if_neg k_3] | rw [if_neg (by rw [k_3]; decide)] | skip) <;> (first | done | rw [if_pos k_4] | rw [if_neg k_4] | rw [if_neg (by rw [k_4]; decide)] | skip) <;> (first | done | rw [if_pos k_5] | rw [if_neg k_5] | rw [if_neg (by rw [k_5]; decide)] | skip) <;> (first | done | rw [if_pos k_6] | rw [if_neg k_6] | rw [if_neg (by rw [k_6]; decide)] | skip) <;> (first | done | rw [if_pos k_7] | rw [if_neg k_7] | rw [if_neg (by rw [k_7]; decide)] | skip) <;> (first | done | rw [if_pos k_8] | rw [if_neg k_8] | rw [if_neg (by rw [k_8]; decide)] | skip) <;> (first | done | rw [if_pos k_9] | rw [if_neg k_9] | rw [if_neg (by rw [k_9]; decide)] | skip) <;> (first | done | rw [if_pos c_10] | rw [if_neg c_10] | rw [if_neg (by rw [c_10]; decide)] | skip) <;> (first | done | rfl | (simp only [c_1, k_2, k_3, k_4, k_5, k_6, k_7, k_8, k_9, c_10]; rfl) | (simp [c_1, k_2, k_3, k_4, k_5, k_6, k_7, k_8, k_9, c_10, bI]; done)))
                  · skip
                    by_cases k_11 : what = 8
                    · refine lv_tableIn (tgt := 144) hx hb dX4_saying_22 (by rw [k_11]; decide) (by rw [k_11]; decide) (by rw [k_11]; rfl) (by decide) ?_
                      refine lv_aload_n hx hb dX4_saying_144 rfl (lv_at hl 1 rfl) ?_
                      refine va_get (D := G.1) (ci := 4) (v := .ref (a 0)) (C := RX4) (T := TX4) (N := 8) hx hb hts i_X4_saying_X4 hown hK.1 hP 0 rfl rfl 5 (by decide) f41 (fun _ h9 => h9) rfl dX4_saying_145 ?_
                      refine lv_iload_n hx hb dX4_saying_148 rfl (lv_at hl 2 rfl) ?_
                      refine g_top (y := nI s.toNatClampNeg) (hsj) ?_
                      refine g_rdV (As := [.int (nI s.toNatClampNeg)]) (rest := []) (nL := 4) hx hb hml hown hts (c_X0_lastOf lz G a h s.toNatClampNeg (by omega)) gX4_saying_X0_lastOf rfl h_X0_lastOf ⟨Nat.le_of_ble_eq_true rfl, Nat.le_of_ble_eq_true rfl⟩ hK (hP.sub [1, 2, 3, 4, 5, 6, 7, 8, 9, 10] rfl) (ci := 0) rfl rfl rfl rfl hl.1 rfl (Nat.le_of_ble_eq_true rfl) ⟨Nat.le_refl _, Nat.le_refl _⟩ dX4_saying_149 ?_
                      exact g_ri hx hb hr hlocks dX4_saying_152 (by rw [xSayR] <;> (first | done | rw [if_pos c_1] | rw [if_neg c_1] | rw [if_neg (by rw [c_1]; decide)] | skip) <;> (first | done | rw [if_pos k_2] | rw [if_neg k_2] | rw [if_neg (by rw [k_2]; decide)] | skip) <;> (first | done | rw [if_pos k_3] | rw [if_neg k_3] | rw [if_neg (by rw [k_3]; decide)] | skip) <;> (first | done | rw [if_pos k_4] | rw [if_neg k_4] | rw [if_neg (by rw [k_4]; decide)] | skip) <;> (first | done | rw [if_pos k_5] | rw [if_neg k_5] | rw [if_neg (by rw [k_5]; decide)] | skip) <;> (first | done | rw [if_pos k_6] | rw [if_neg k_6] | rw [if_neg (by rw [k_6]; decide)] | skip) <;> (first | done | rw [if_pos k_7] | rw [if_neg k_7] | rw [if_neg (by rw [k_7]; decide)] | skip) <;> (first | done | rw [if_pos k_8] | rw [if_neg k_8] | rw [if_neg (by rw [k_8]; decide)] | skip) <;> (first | done | rw [if_pos k_9] | rw [if_neg k_9] | rw [if_neg (by rw [k_9]; decide)] | skip) <;> (first | done | rw [if_pos k_11] | rw [if_neg k_11] | rw [if_neg (by rw [k_11]; decide)] | skip) <;> (first | done | rfl | (simp only [c_1, k_2, k_3, k_4, k_5, k_6, k_7, k_8, k_9, k_11]; rfl) | (simp [c_1, k_2, k_3, k_4, k_5, k_6, k_7, k_8, k_9, k_11, bI]; done)))
                    · skip
                      refine lv_tableOut (tgt := 153) hx hb dX4_saying_22 (by have n0 := lv_neT k_2 (a := 0) (by decide); have n1 := lv_neT k_3 (a := 1) (by decide); have n2 := lv_neT k_4 (a := 2) (by decide); have n3 := lv_neT k_5 (a := 3) (by decide); have n4 := lv_neT k_6 (a := 4) (by decide); have n5 := lv_neT k_7 (a := 5) (by decide); have n6 := lv_neT k_8 (a := 6) (by decide); have n7 := lv_neT k_9 (a := 7) (by decide); have n8 := lv_neT k_11 (a := 8) (by decide); omega) (by decide) ?_
                      refine lv_iconst (v := (-1)) hx hb dX4_saying_153 (by decide) ?_
                      exact g_ri hx hb hr hlocks dX4_saying_154 (by rw [xSayR] <;> (first | done | rw [if_pos c_1] | rw [if_neg c_1] | rw [if_neg (by rw [c_1]; decide)] | skip) <;> (first | done | rw [if_pos k_2] | rw [if_neg k_2] | rw [if_neg (by rw [k_2]; decide)] | skip) <;> (first | done | rw [if_pos k_3] | rw [if_neg k_3] | rw [if_neg (by rw [k_3]; decide)] | skip) <;> (first | done | rw [if_pos k_4] | rw [if_neg k_4] | rw [if_neg (by rw [k_4]; decide)] | skip) <;> (first | done | rw [if_pos k_5] | rw [if_neg k_5] | rw [if_neg (by rw [k_5]; decide)] | skip) <;> (first | done | rw [if_pos k_6] | rw [if_neg k_6] | rw [if_neg (by rw [k_6]; decide)] | skip) <;> (first | done | rw [if_pos k_7] | rw [if_neg k_7] | rw [if_neg (by rw [k_7]; decide)] | skip) <;> (first | done | rw [if_pos k_8] | rw [if_neg k_8] | rw [if_neg (by rw [k_8]; decide)] | skip) <;> (first | done | rw [if_pos k_9] | rw [if_neg k_9] | rw [if_neg (by rw [k_9]; decide)] | skip) <;> (first | done | rw [if_pos k_11] | rw [if_neg k_11] | rw [if_neg (by rw [k_11]; decide)] | skip) <;> (first | done | rfl | (simp only [c_1, k_2, k_3, k_4, k_5, k_6, k_7, k_8, k_9, k_11]; rfl) | (simp [c_1, k_2, k_3, k_4, k_5, k_6, k_7, k_8, k_9, k_11, bI]; done)))
  · skip
    have c_1 := bI_0 c_1
    refine lv_iconst (v := (-1)) hx hb dX4_saying_11 (by decide) ?_
    exact g_ri hx hb hr hlocks dX4_saying_12 (by rw [xSayR] <;> (first | done | rw [if_pos c_1] | rw [if_neg c_1] | rw [if_neg (by rw [c_1]; decide)] | skip) <;> (first | done | rfl | (simp only [c_1]; rfl) | (simp [c_1, bI]; done)))

theorem i_X4_place_X4 : ∀ w ∈ wsX40, w ∈ wsX4_place := by decide +kernel
theorem h_X4_place : yX4_place.cls = RX4 ∧ yX4_place.cls ≠ "java/lang/invoke/MethodHandle" ∧ yX4_place.cls ≠ "java/lang/invoke/VarHandle" ∧ (parseMethodDescriptor yX4_place.desc).map (fun d => d.parameters.length) = some 2 := by decide +kernel
set_option maxHeartbeats 4000000 in
set_option maxRecDepth 100000 in
theorem c_X4_place (lz : Launch) (G : gG) (r b f a d : Nat → Nat) (tr : Int64) (h : HaS) (n : Nat) (p what : Int32) (hn : h.mo.sayings = nI n) (hn8 : n ≤ 8) : gWr lz yX4_place wsX4_place 5 G [.ref (r 0), .int p, .int what] (wRi r b f a d tr ++ wHa a G.2.1 h) (wRi r b f a d tr ++ wHa a G.2.1 (xPlS h n p what)) (some (.int (xPlR h n p what))) := by
  refine g_wr (by decide) rfl (Nat.le_of_ble_eq_true rfl) ?_
  intro pz ez sz mz bz tz cz hx hb hr hml hown hts hlocks hK A hAe hP hD hS ls hl
  have hl : lv_has ls 3 [(0, .ref (r 0)), (1, .int p), (2, .int what)] := hl
  have f41 := hts (.fieldLink RX4 41 "WhisperRing" "hall" "LWhisperRing$Hall;") (by decide +kernel)
  refine lv_aload_n hx hb dX4_place_0 rfl (lv_at hl 0 rfl) ?_
  refine va_get (D := G.1) (ci := 4) (v := .ref (a 0)) (C := RX4) (T := TX4) (N := 8) hx hb hts i_X4_place_X4 hown hK.1 hP 0 rfl rfl 5 (by decide) f41 (fun _ h9 => h9) rfl dX4_place_1 ?_
  refine lv_iload_n hx hb dX4_place_4 rfl (lv_at hl 1 rfl) ?_
  refine g_rdV (As := [.int p]) (rest := []) (nL := 3) hx hb hml hown hts (c_X0_hasPlace lz G a h p) gX4_place_X0_hasPlace rfl h_X0_hasPlace ⟨Nat.le_of_ble_eq_true rfl, Nat.le_of_ble_eq_true rfl⟩ hK (hP.sub [1, 2, 3, 4, 5, 6, 7, 8, 9, 10] rfl) (ci := 0) rfl rfl rfl rfl hl.1 rfl (Nat.le_of_ble_eq_true rfl) ⟨Nat.le_refl _, Nat.le_refl _⟩ dX4_place_5 ?_
  refine lv_if_ne (tgt := 13) hx hb dX4_place_8 (by decide) (fun c_1 => ?_) (fun c_1 => ?_)
  · skip
    have c_1 := bI_1 c_1
    refine lv_aload_n hx hb dX4_place_13 rfl (lv_at hl 0 rfl) ?_
    refine va_get (D := G.1) (ci := 4) (v := .ref (a 0)) (C := RX4) (T := TX4) (N := 8) hx hb hts i_X4_place_X4 hown hK.1 hP 0 rfl rfl 5 (by decide) f41 (fun _ h9 => h9) rfl dX4_place_14 ?_
    refine lv_iconst (v := 0) hx hb dX4_place_17 (by decide) ?_
    refine g_wrV (As := [.int 0]) (rest := []) (nL := 3) hx hb hml hown hts (c_X0_listen lz G a h n 0 hn hn8) gX4_place_X0_listen rfl h_X0_listen ⟨Nat.le_of_ble_eq_true rfl, Nat.le_of_ble_eq_true rfl⟩ hK hP hD hS [1, 2, 3, 4, 5, 6, 7, 8, 9, 10] rfl rfl rfl (ws1 := wRi r b f a d tr ++ wHa a G.2.1 (hLis h n 0)) rfl [r 0, a 0, a 1, a 2, a 3, a 4, a 5, a 6, a 7, a 8, a 9] rfl rfl (ci := 0) rfl rfl rfl rfl hl.1 rfl (Nat.le_of_ble_eq_true rfl) ⟨Nat.le_refl _, Nat.le_refl _⟩ dX4_place_18 (fun H locs hP hD hS => ?_)
    refine lv_iload_n hx hb dX4_place_21 rfl (lv_at hl 2 rfl) ?_
    by_cases k_2 : what = 0
    · refine lv_tableIn (tgt := 60) hx hb dX4_place_22 (by rw [k_2]; decide) (by rw [k_2]; decide) (by rw [k_2]; rfl) (by decide) ?_
      refine lv_aload_n hx hb dX4_place_60 rfl (lv_at hl 0 rfl) ?_
      refine va_get (D := G.1) (ci := 4) (v := .ref (a 0)) (C := RX4) (T := TX4) (N := 8) hx hb hts i_X4_place_X4 hown hK.1 hP 0 rfl rfl 5 (by decide) f41 (fun _ h9 => h9) rfl dX4_place_61 ?_
      refine lv_iload_n hx hb dX4_place_64 rfl (lv_at hl 1 rfl) ?_
      refine g_rdV (As := [.int p]) (rest := []) (nL := 3) hx hb hml hown hts (c_X0_isNiche lz G a (hLis h n 0) p) gX4_place_X0_isNiche rfl h_X0_isNiche ⟨Nat.le_of_ble_eq_true rfl, Nat.le_of_ble_eq_true rfl⟩ hK (hP.sub [1, 2, 3, 4, 5, 6, 7, 8, 9, 10] rfl) (ci := 0) rfl rfl rfl rfl hl.1 rfl (Nat.le_of_ble_eq_true rfl) ⟨Nat.le_refl _, Nat.le_refl _⟩ dX4_place_65 ?_
      refine lv_if_eq (tgt := 75) hx hb dX4_place_68 (by decide) (fun c_3 => ?_) (fun c_3 => ?_)
      · skip
        have c_3 := bI_0 c_3
        refine lv_iconst (v := 0) hx hb dX4_place_75 (by decide) ?_
        have hP : va_P G.1 vwCl (wRi r b f a d tr ++ wHa a G.2.1 (xPlS h n p what)) H := by
          rw [xPlS] <;> (first | done | rw [if_pos c_1] | rw [if_neg c_1] | rw [if_neg (by rw [c_1]; decide)] | skip) <;> (first | done | rw [if_pos k_2] | rw [if_neg k_2] | rw [if_neg (by rw [k_2]; decide)] | skip) <;> (first | done | rw [if_pos c_3] | rw [if_neg c_3] | rw [if_neg (by rw [c_3]; decide)] | skip)
          exact hP
        exact g_wi hx hb hr hlocks hAe hP hS dX4_place_76 (by rw [xPlR] <;> (first | done | rw [if_pos c_1] | rw [if_neg c_1] | rw [if_neg (by rw [c_1]; decide)] | skip) <;> (first | done | rw [if_pos k_2] | rw [if_neg k_2] | rw [if_neg (by rw [k_2]; decide)] | skip) <;> (first | done | rw [if_pos c_3] | rw [if_neg c_3] | rw [if_neg (by rw [c_3]; decide)] | skip) <;> (first | done | rfl | (simp only [c_1, k_2, c_3]; rfl) | (simp [c_1, k_2, c_3, bI]; done)))
      · skip
        have c_3 := bI_1 c_3
        refine lv_iconst (v := 1) hx hb dX4_place_71 (by decide) ?_
        refine lv_goto (tgt := 76) hx hb dX4_place_72 (by decide) ?_
        have hP : va_P G.1 vwCl (wRi r b f a d tr ++ wHa a G.2.1 (xPlS h n p what)) H := by
          rw [xPlS] <;> (first | done | rw [if_pos c_1] | rw [if_neg c_1] | rw [if_neg (by rw [c_1]; decide)] | skip) <;> (first | done | rw [if_pos k_2] | rw [if_neg k_2] | rw [if_neg (by rw [k_2]; decide)] | skip) <;> (first | done | rw [if_pos c_3] | rw [if_neg c_3] | rw [if_neg (by rw [c_3]; decide)] | skip)
          exact hP
        exact g_wi hx hb hr hlocks hAe hP hS dX4_place_76 (by rw [xPlR] <;> (first | done | rw [if_pos c_1] | rw [if_neg c_1] | rw [if_neg (by rw [c_1]; decide)] | skip) <;> (first | done | rw [if_pos k_2] | rw [if_neg k_2] | rw [if_neg (by rw [k_2]; decide)] | skip) <;> (first | done | rw [if_pos c_3] | rw [if_neg c_3] | rw [if_neg (by rw [c_3]; decide)] | skip) <;> (first | done | rfl | (simp only [c_1, k_2, c_3]; rfl) | (simp [c_1, k_2, c_3, bI]; done)))
    · skip
      by_cases k_4 : what = 1
      · refine lv_tableIn (tgt := 77) hx hb dX4_place_22 (by rw [k_4]; decide) (by rw [k_4]; decide) (by rw [k_4]; rfl) (by decide) ?_
        refine lv_aload_n hx hb dX4_place_77 rfl (lv_at hl 0 rfl) ?_
        refine va_get (D := G.1) (ci := 4) (v := .ref (a 0)) (C := RX4) (T := TX4) (N := 8) hx hb hts i_X4_place_X4 hown hK.1 hP 0 rfl rfl 5 (by decide) f41 (fun _ h9 => h9) rfl dX4_place_78 ?_
        refine lv_iload_n hx hb dX4_place_81 rfl (lv_at hl 1 rfl) ?_
        refine g_rdV (As := [.int p]) (rest := []) (nL := 3) hx hb hml hown hts (c_X0_soundingAt lz G a (hLis h n 0) n p hn hn8) gX4_place_X0_soundingAt rfl h_X0_soundingAt ⟨Nat.le_of_ble_eq_true rfl, Nat.le_of_ble_eq_true rfl⟩ hK (hP.sub [1, 2, 3, 4, 5, 6, 7, 8, 9, 10] rfl) (ci := 0) rfl rfl rfl rfl hl.1 rfl (Nat.le_of_ble_eq_true rfl) ⟨Nat.le_refl _, Nat.le_refl _⟩ dX4_place_82 ?_
        have hP : va_P G.1 vwCl (wRi r b f a d tr ++ wHa a G.2.1 (xPlS h n p what)) H := by
          rw [xPlS] <;> (first | done | rw [if_pos c_1] | rw [if_neg c_1] | rw [if_neg (by rw [c_1]; decide)] | skip) <;> (first | done | rw [if_pos k_2] | rw [if_neg k_2] | rw [if_neg (by rw [k_2]; decide)] | skip) <;> (first | done | rw [if_pos k_4] | rw [if_neg k_4] | rw [if_neg (by rw [k_4]; decide)] | skip)
          exact hP
        exact g_wi hx hb hr hlocks hAe hP hS dX4_place_85 (by rw [xPlR] <;> (first | done | rw [if_pos c_1] | rw [if_neg c_1] | rw [if_neg (by rw [c_1]; decide)] | skip) <;> (first | done | rw [if_pos k_2] | rw [if_neg k_2] | rw [if_neg (by rw [k_2]; decide)] | skip) <;> (first | done | rw [if_pos k_4] | rw [if_neg k_4] | rw [if_neg (by rw [k_4]; decide)] | skip) <;> (first | done | rfl | (simp only [c_1, k_2, k_4]; rfl) | (simp [c_1, k_2, k_4, bI]; done)))
      · skip
        by_cases k_5 : what = 2
        · refine lv_tableIn (tgt := 86) hx hb dX4_place_22 (by rw [k_5]; decide) (by rw [k_5]; decide) (by rw [k_5]; rfl) (by decide) ?_
          refine lv_aload_n hx hb dX4_place_86 rfl (lv_at hl 0 rfl) ?_
          refine va_get (D := G.1) (ci := 4) (v := .ref (a 0)) (C := RX4) (T := TX4) (N := 8) hx hb hts i_X4_place_X4 hown hK.1 hP 0 rfl rfl 5 (by decide) f41 (fun _ h9 => h9) rfl dX4_place_87 ?_
          refine lv_iload_n hx hb dX4_place_90 rfl (lv_at hl 1 rfl) ?_
          refine g_rdV (As := [.int p]) (rest := []) (nL := 3) hx hb hml hown hts (c_X0_clearAt lz G a (hLis h n 0) n p hn hn8) gX4_place_X0_clearAt rfl h_X0_clearAt ⟨Nat.le_of_ble_eq_true rfl, Nat.le_of_ble_eq_true rfl⟩ hK (hP.sub [1, 2, 3, 4, 5, 6, 7, 8, 9, 10] rfl) (ci := 0) rfl rfl rfl rfl hl.1 rfl (Nat.le_of_ble_eq_true rfl) ⟨Nat.le_refl _, Nat.le_refl _⟩ dX4_place_91 ?_
          have hP : va_P G.1 vwCl (wRi r b f a d tr ++ wHa a G.2.1 (xPlS h n p what)) H := by
            rw [xPlS] <;> (first | done | rw [if_pos c_1] | rw [if_neg c_1] | rw [if_neg (by rw [c_1]; decide)] | skip) <;> (first | done | rw [if_pos k_2] | rw [if_neg k_2] | rw [if_neg (by rw [k_2]; decide)] | skip) <;> (first | done | rw [if_pos k_4] | rw [if_neg k_4] | rw [if_neg (by rw [k_4]; decide)] | skip) <;> (first | done | rw [if_pos k_5] | rw [if_neg k_5] | rw [if_neg (by rw [k_5]; decide)] | skip)
            exact hP
          exact g_wi hx hb hr hlocks hAe hP hS dX4_place_94 (by rw [xPlR] <;> (first | done | rw [if_pos c_1] | rw [if_neg c_1] | rw [if_neg (by rw [c_1]; decide)] | skip) <;> (first | done | rw [if_pos k_2] | rw [if_neg k_2] | rw [if_neg (by rw [k_2]; decide)] | skip) <;> (first | done | rw [if_pos k_4] | rw [if_neg k_4] | rw [if_neg (by rw [k_4]; decide)] | skip) <;> (first | done | rw [if_pos k_5] | rw [if_neg k_5] | rw [if_neg (by rw [k_5]; decide)] | skip) <;> (first | done | rfl | (simp only [c_1, k_2, k_4, k_5]; rfl) | (simp [c_1, k_2, k_4, k_5, bI]; done)))
        · skip
          by_cases k_6 : what = 3
          · refine lv_tableIn (tgt := 95) hx hb dX4_place_22 (by rw [k_6]; decide) (by rw [k_6]; decide) (by rw [k_6]; rfl) (by decide) ?_
            refine lv_aload_n hx hb dX4_place_95 rfl (lv_at hl 0 rfl) ?_
            refine va_get (D := G.1) (ci := 4) (v := .ref (a 0)) (C := RX4) (T := TX4) (N := 8) hx hb hts i_X4_place_X4 hown hK.1 hP 0 rfl rfl 5 (by decide) f41 (fun _ h9 => h9) rfl dX4_place_96 ?_
            refine lv_iload_n hx hb dX4_place_99 rfl (lv_at hl 1 rfl) ?_
            refine g_rdV (As := [.int p]) (rest := []) (nL := 3) hx hb hml hown hts (c_X0_isSea lz G a (hLis h n 0) n p hn hn8) gX4_place_X0_isSea rfl h_X0_isSea ⟨Nat.le_of_ble_eq_true rfl, Nat.le_of_ble_eq_true rfl⟩ hK (hP.sub [1, 2, 3, 4, 5, 6, 7, 8, 9, 10] rfl) (ci := 0) rfl rfl rfl rfl hl.1 rfl (Nat.le_of_ble_eq_true rfl) ⟨Nat.le_refl _, Nat.le_refl _⟩ dX4_place_100 ?_
            refine lv_if_eq (tgt := 110) hx hb dX4_place_103 (by decide) (fun c_7 => ?_) (fun c_7 => ?_)
            · skip
              have c_7 := bI_0 c_7
              refine lv_iconst (v := 0) hx hb dX4_place_110 (by decide) ?_
              have hP : va_P G.1 vwCl (wRi r b f a d tr ++ wHa a G.2.1 (xPlS h n p what)) H := by
                rw [xPlS] <;> (first | done | rw [if_pos c_1] | rw [if_neg c_1] | rw [if_neg (by rw [c_1]; decide)] | skip) <;> (first | done | rw [if_pos k_2] | rw [if_neg k_2] | rw [if_neg (by rw [k_2]; decide)] | skip) <;> (first | done | rw [if_pos k_4] | rw [if_neg k_4] | rw [if_neg (by rw [k_4]; decide)] | skip) <;> (first | done | rw [if_pos k_5] | rw [if_neg k_5] | rw [if_neg (by rw [k_5]; decide)] | skip) <;> (first | done | rw [if_pos k_6] | rw [if_neg k_6] | rw [if_neg (by rw [k_6]; decide)] | skip) <;> (first | done | rw [if_pos c_7] | rw [if_neg c_7] | rw [if_neg (by rw [c_7]; decide)] | skip)
                exact hP
              exact g_wi hx hb hr hlocks hAe hP hS dX4_place_111 (by rw [xPlR] <;> (first | done | rw [if_pos c_1] | rw [if_neg c_1] | rw [if_neg (by rw [c_1]; decide)] | skip) <;> (first | done | rw [if_pos k_2] | rw [if_neg k_2] | rw [if_neg (by rw [k_2]; decide)] | skip) <;> (first | done | rw [if_pos k_4] | rw [if_neg k_4] | rw [if_neg (by rw [k_4]; decide)] | skip) <;> (first | done | rw [if_pos k_5] | rw [if_neg k_5] | rw [if_neg (by rw [k_5]; decide)] | skip) <;> (first | done | rw [if_pos k_6] | rw [if_neg k_6] | rw [if_neg (by rw [k_6]; decide)] | skip) <;> (first | done | rw [if_pos c_7] | rw [if_neg c_7] | rw [if_neg (by rw [c_7]; decide)] | skip) <;> (first | done | rfl | (simp only [c_1, k_2, k_4, k_5, k_6, c_7]; rfl) | (simp [c_1, k_2, k_4, k_5, k_6, c_7, bI]; done)))
            · skip
              have c_7 := bI_1 c_7
              refine lv_iconst (v := 1) hx hb dX4_place_106 (by decide) ?_
              refine lv_goto (tgt := 111) hx hb dX4_place_107 (by decide) ?_
              have hP : va_P G.1 vwCl (wRi r b f a d tr ++ wHa a G.2.1 (xPlS h n p what)) H := by
                rw [xPlS] <;> (first | done | rw [if_pos c_1] | rw [if_neg c_1] | rw [if_neg (by rw [c_1]; decide)] | skip) <;> (first | done | rw [if_pos k_2] | rw [if_neg k_2] | rw [if_neg (by rw [k_2]; decide)] | skip) <;> (first | done | rw [if_pos k_4] | rw [if_neg k_4] | rw [if_neg (by rw [k_4]; decide)] | skip) <;> (first | done | rw [if_pos k_5] | rw [if_neg k_5] | rw [if_neg (by rw [k_5]; decide)] | skip) <;> (first | done | rw [if_pos k_6] | rw [if_neg k_6] | rw [if_neg (by rw [k_6]; decide)] | skip) <;> (first | done | rw [if_pos c_7] | rw [if_neg c_7] | rw [if_neg (by rw [c_7]; decide)] | skip)
                exact hP
              exact g_wi hx hb hr hlocks hAe hP hS dX4_place_111 (by rw [xPlR] <;> (first | done | rw [if_pos c_1] | rw [if_neg c_1] | rw [if_neg (by rw [c_1]; decide)] | skip) <;> (first | done | rw [if_pos k_2] | rw [if_neg k_2] | rw [if_neg (by rw [k_2]; decide)] | skip) <;> (first | done | rw [if_pos k_4] | rw [if_neg k_4] | rw [if_neg (by rw [k_4]; decide)] | skip) <;> (first | done | rw [if_pos k_5] | rw [if_neg k_5] | rw [if_neg (by rw [k_5]; decide)] | skip) <;> (first | done | rw [if_pos k_6] | rw [if_neg k_6] | rw [if_neg (by rw [k_6]; decide)] | skip) <;> (first | done | rw [if_pos c_7] | rw [if_neg c_7] | rw [if_neg (by rw [c_7]; decide)] | skip) <;> (first | done | rfl | (simp only [c_1, k_2, k_4, k_5, k_6, c_7]; rfl) | (simp [c_1, k_2, k_4, k_5, k_6, c_7, bI]; done)))
          · skip
            by_cases k_8 : what = 4
            · refine lv_tableIn (tgt := 112) hx hb dX4_place_22 (by rw [k_8]; decide) (by rw [k_8]; decide) (by rw [k_8]; rfl) (by decide) ?_
              refine lv_aload_n hx hb dX4_place_112 rfl (lv_at hl 0 rfl) ?_
              refine va_get (D := G.1) (ci := 4) (v := .ref (a 0)) (C := RX4) (T := TX4) (N := 8) hx hb hts i_X4_place_X4 hown hK.1 hP 0 rfl rfl 5 (by decide) f41 (fun _ h9 => h9) rfl dX4_place_113 ?_
              refine lv_iload_n hx hb dX4_place_116 rfl (lv_at hl 1 rfl) ?_
              refine g_rdV (As := [.int p]) (rest := []) (nL := 3) hx hb hml hown hts (c_X0_isNiche lz G a (hLis h n 0) p) gX4_place_X0_isNiche rfl h_X0_isNiche ⟨Nat.le_of_ble_eq_true rfl, Nat.le_of_ble_eq_true rfl⟩ hK (hP.sub [1, 2, 3, 4, 5, 6, 7, 8, 9, 10] rfl) (ci := 0) rfl rfl rfl rfl hl.1 rfl (Nat.le_of_ble_eq_true rfl) ⟨Nat.le_refl _, Nat.le_refl _⟩ dX4_place_117 ?_
              refine lv_if_eq (tgt := 136) hx hb dX4_place_120 (by decide) (fun c_9 => ?_) (fun c_9 => ?_)
              · skip
                have c_9 := bI_0 c_9
                refine lv_aload_n hx hb dX4_place_136 rfl (lv_at hl 0 rfl) ?_
                refine va_get (D := G.1) (ci := 4) (v := .ref (a 0)) (C := RX4) (T := TX4) (N := 8) hx hb hts i_X4_place_X4 hown hK.1 hP 0 rfl rfl 5 (by decide) f41 (fun _ h9 => h9) rfl dX4_place_137 ?_
                refine lv_iload_n hx hb dX4_place_140 rfl (lv_at hl 1 rfl) ?_
                refine g_rdV (As := [.int p]) (rest := []) (nL := 3) hx hb hml hown hts (c_X0_strengthAt lz G a (hLis h n 0) n p hn hn8) gX4_place_X0_strengthAt rfl h_X0_strengthAt ⟨Nat.le_of_ble_eq_true rfl, Nat.le_of_ble_eq_true rfl⟩ hK (hP.sub [1, 2, 3, 4, 5, 6, 7, 8, 9, 10] rfl) (ci := 0) rfl rfl rfl rfl hl.1 rfl (Nat.le_of_ble_eq_true rfl) ⟨Nat.le_refl _, Nat.le_refl _⟩ dX4_place_141 ?_
                have hP : va_P G.1 vwCl (wRi r b f a d tr ++ wHa a G.2.1 (xPlS h n p what)) H := by
                  rw [xPlS] <;> (first | done | rw [if_pos c_1] | rw [if_neg c_1] | rw [if_neg (by rw [c_1]; decide)] | skip) <;> (first | done | rw [if_pos k_2] | rw [if_neg k_2] | rw [if_neg (by rw [k_2]; decide)] | skip) <;> (first | done | rw [if_pos k_4] | rw [if_neg k_4] | rw [if_neg (by rw [k_4]; decide)] | skip) <;> (first | done | rw [if_pos k_5] | rw [if_neg k_5] | rw [if_neg (by rw [k_5]; decide)] | skip) <;> (first | done | rw [if_pos k_6] | rw [if_neg k_6] | rw [if_neg (by rw [k_6]; decide)] | skip) <;> (first | done | rw [if_pos k_8] | rw [if_neg k_8] | rw [if_neg (by rw [k_8]; decide)] | skip) <;> (first | done | rw [if_pos c_9] | rw [if_neg c_9] | rw [if_neg (by rw [c_9]; decide)] | skip)
                  exact hP
                exact g_wi hx hb hr hlocks hAe hP hS dX4_place_144 (by rw [xPlR] <;> (first | done | rw [if_pos c_1] | rw [if_neg c_1] | rw [if_neg (by rw [c_1]; decide)] | skip) <;> (first | done | rw [if_pos k_2] | rw [if_neg k_2] | rw [if_neg (by rw [k_2]; decide)] | skip) <;> (first | done | rw [if_pos k_4] | rw [if_neg k_4] | rw [if_neg (by rw [k_4]; decide)] | skip) <;> (first | done | rw [if_pos k_5] | rw [if_neg k_5] | rw [if_neg (by rw [k_5]; decide)] | skip) <;> (first | done | rw [if_pos k_6] | rw [if_neg k_6] | rw [if_neg (by rw [k_6]; decide)] | skip) <;> (first | done | rw [if_pos k_8] | rw [if_neg k_8] | rw [if_neg (by rw [k_8]; decide)] | skip) <;> (first | done | rw [if_pos c_9] | rw [if_neg c_9] | rw [if_neg (by rw [c_9]; decide)] | skip) <;> (first | done | rfl | (simp only [c_1, k_2, k_4, k_5, k_6, k_8, c_9]; rfl) | (simp [c_1, k_2, k_4, k_5, k_6, k_8, c_9, bI]; done)))
              · skip
                have c_9 := bI_1 c_9
                refine lv_iconst (v := 2) hx hb dX4_place_123 (by decide) ?_
                refine lv_aload_n hx hb dX4_place_124 rfl (lv_at hl 0 rfl) ?_
                refine va_get (D := G.1) (ci := 4) (v := .ref (a 0)) (C := RX4) (T := TX4) (N := 8) hx hb hts i_X4_place_X4 hown hK.1 hP 0 rfl rfl 5 (by decide) f41 (fun _ h9 => h9) rfl dX4_place_125 ?_
                refine lv_iload_n hx hb dX4_place_128 rfl (lv_at hl 1 rfl) ?_
                refine g_rdV (As := [.int p]) (rest := [.int 2]) (nL := 3) hx hb hml hown hts (c_X0_strengthAt lz G a (hLis h n 0) n p hn hn8) gX4_place_X0_strengthAt rfl h_X0_strengthAt ⟨Nat.le_of_ble_eq_true rfl, Nat.le_of_ble_eq_true rfl⟩ hK (hP.sub [1, 2, 3, 4, 5, 6, 7, 8, 9, 10] rfl) (ci := 0) rfl rfl rfl rfl hl.1 rfl (Nat.le_of_ble_eq_true rfl) ⟨Nat.le_refl _, Nat.le_refl _⟩ dX4_place_129 ?_
                refine lv_imul hx hb dX4_place_132 ?_
                refine lv_goto (tgt := 144) hx hb dX4_place_133 (by decide) ?_
                have hP : va_P G.1 vwCl (wRi r b f a d tr ++ wHa a G.2.1 (xPlS h n p what)) H := by
                  rw [xPlS] <;> (first | done | rw [if_pos c_1] | rw [if_neg c_1] | rw [if_neg (by rw [c_1]; decide)] | skip) <;> (first | done | rw [if_pos k_2] | rw [if_neg k_2] | rw [if_neg (by rw [k_2]; decide)] | skip) <;> (first | done | rw [if_pos k_4] | rw [if_neg k_4] | rw [if_neg (by rw [k_4]; decide)] | skip) <;> (first | done | rw [if_pos k_5] | rw [if_neg k_5] | rw [if_neg (by rw [k_5]; decide)] | skip) <;> (first | done | rw [if_pos k_6] | rw [if_neg k_6] | rw [if_neg (by rw [k_6]; decide)] | skip) <;> (first | done | rw [if_pos k_8] | rw [if_neg k_8] | rw [if_neg (by rw [k_8]; decide)] | skip) <;> (first | done | rw [if_pos c_9] | rw [if_neg c_9] | rw [if_neg (by rw [c_9]; decide)] | skip)
                  exact hP
                exact g_wi hx hb hr hlocks hAe hP hS dX4_place_144 (by rw [xPlR] <;> (first | done | rw [if_pos c_1] | rw [if_neg c_1] | rw [if_neg (by rw [c_1]; decide)] | skip) <;> (first | done | rw [if_pos k_2] | rw [if_neg k_2] | rw [if_neg (by rw [k_2]; decide)] | skip) <;> (first | done | rw [if_pos k_4] | rw [if_neg k_4] | rw [if_neg (by rw [k_4]; decide)] | skip) <;> (first | done | rw [if_pos k_5] | rw [if_neg k_5] | rw [if_neg (by rw [k_5]; decide)] | skip) <;> (first | done | rw [if_pos k_6] | rw [if_neg k_6] | rw [if_neg (by rw [k_6]; decide)] | skip) <;> (first | done | rw [if_pos k_8] | rw [if_neg k_8] | rw [if_neg (by rw [k_8]; decide)] | skip) <;> (first | done | rw [if_pos c_9] | rw [if_neg c_9] | rw [if_neg (by rw [c_9]; decide)] | skip) <;> (first | done | rfl | (simp only [c_1, k_2, k_4, k_5, k_6, k_8, c_9]; rfl) | (simp [c_1, k_2, k_4, k_5, k_6, k_8, c_9, bI]; done)))
            · skip
              by_cases k_10 : what = 5
              · refine lv_tableIn (tgt := 145) hx hb dX4_place_22 (by rw [k_10]; decide) (by rw [k_10]; decide) (by rw [k_10]; rfl) (by decide) ?_
                refine lv_aload_n hx hb dX4_place_145 rfl (lv_at hl 0 rfl) ?_
                refine va_get (D := G.1) (ci := 4) (v := .ref (a 0)) (C := RX4) (T := TX4) (N := 8) hx hb hts i_X4_place_X4 hown hK.1 hP 0 rfl rfl 5 (by decide) f41 (fun _ h9 => h9) rfl dX4_place_146 ?_
                refine lv_iload_n hx hb dX4_place_149 rfl (lv_at hl 1 rfl) ?_
                refine g_wrV (As := [.int p]) (rest := []) (nL := 3) hx hb hml hown hts (c_X0_quietOf lz G a (hLis h n 0) n p hn hn8) gX4_place_X0_quietOf rfl h_X0_quietOf ⟨Nat.le_of_ble_eq_true rfl, Nat.le_of_ble_eq_true rfl⟩ hK hP hD hS [1, 2, 3, 4, 5, 6, 7, 8, 9, 10] rfl rfl rfl (ws1 := wRi r b f a d tr ++ wHa a G.2.1 (hQuiS (hLis h n 0) n p)) rfl [r 0, a 0, a 1, a 2, a 3, a 4, a 5, a 6, a 7, a 8, a 9] rfl rfl (ci := 0) rfl rfl rfl rfl hl.1 rfl (Nat.le_of_ble_eq_true rfl) ⟨Nat.le_refl _, Nat.le_refl _⟩ dX4_place_150 (fun H locs hP hD hS => ?_)
                have hP : va_P G.1 vwCl (wRi r b f a d tr ++ wHa a G.2.1 (xPlS h n p what)) H := by
                  rw [xPlS] <;> (first | done | rw [if_pos c_1] | rw [if_neg c_1] | rw [if_neg (by rw [c_1]; decide)] | skip) <;> (first | done | rw [if_pos k_2] | rw [if_neg k_2] | rw [if_neg (by rw [k_2]; decide)] | skip) <;> (first | done | rw [if_pos k_4] | rw [if_neg k_4] | rw [if_neg (by rw [k_4]; decide)] | skip) <;> (first | done | rw [if_pos k_5] | rw [if_neg k_5] | rw [if_neg (by rw [k_5]; decide)] | skip) <;> (first | done | rw [if_pos k_6] | rw [if_neg k_6] | rw [if_neg (by rw [k_6]; decide)] | skip) <;> (first | done | rw [if_pos k_8] | rw [if_neg k_8] | rw [if_neg (by rw [k_8]; decide)] | skip) <;> (first | done | rw [if_pos k_10] | rw [if_neg k_10] | rw [if_neg (by rw [k_10]; decide)] | skip)
                  exact hP
                exact g_wi hx hb hr hlocks hAe hP hS dX4_place_153 (by rw [xPlR] <;> (first | done | rw [if_pos c_1] | rw [if_neg c_1] | rw [if_neg (by rw [c_1]; decide)] | skip) <;> (first | done | rw [if_pos k_2] | rw [if_neg k_2] | rw [if_neg (by rw [k_2]; decide)] | skip) <;> (first | done | rw [if_pos k_4] | rw [if_neg k_4] | rw [if_neg (by rw [k_4]; decide)] | skip) <;> (first | done | rw [if_pos k_5] | rw [if_neg k_5] | rw [if_neg (by rw [k_5]; decide)] | skip) <;> (first | done | rw [if_pos k_6] | rw [if_neg k_6] | rw [if_neg (by rw [k_6]; decide)] | skip) <;> (first | done | rw [if_pos k_8] | rw [if_neg k_8] | rw [if_neg (by rw [k_8]; decide)] | skip) <;> (first | done | rw [if_pos k_10] | rw [if_neg k_10] | rw [if_neg (by rw [k_10]; decide)] | skip) <;> (first | done | rfl | (simp only [c_1, k_2, k_4, k_5, k_6, k_8, k_10]; rfl) | (simp [c_1, k_2, k_4, k_5, k_6, k_8, k_10, bI]; done)))
              · skip
                refine lv_tableOut (tgt := 154) hx hb dX4_place_22 (by have n0 := lv_neT k_2 (a := 0) (by decide); have n1 := lv_neT k_4 (a := 1) (by decide); have n2 := lv_neT k_5 (a := 2) (by decide); have n3 := lv_neT k_6 (a := 3) (by decide); have n4 := lv_neT k_8 (a := 4) (by decide); have n5 := lv_neT k_10 (a := 5) (by decide); omega) (by decide) ?_
                refine lv_iconst (v := (-1)) hx hb dX4_place_154 (by decide) ?_
                have hP : va_P G.1 vwCl (wRi r b f a d tr ++ wHa a G.2.1 (xPlS h n p what)) H := by
                  rw [xPlS] <;> (first | done | rw [if_pos c_1] | rw [if_neg c_1] | rw [if_neg (by rw [c_1]; decide)] | skip) <;> (first | done | rw [if_pos k_2] | rw [if_neg k_2] | rw [if_neg (by rw [k_2]; decide)] | skip) <;> (first | done | rw [if_pos k_4] | rw [if_neg k_4] | rw [if_neg (by rw [k_4]; decide)] | skip) <;> (first | done | rw [if_pos k_5] | rw [if_neg k_5] | rw [if_neg (by rw [k_5]; decide)] | skip) <;> (first | done | rw [if_pos k_6] | rw [if_neg k_6] | rw [if_neg (by rw [k_6]; decide)] | skip) <;> (first | done | rw [if_pos k_8] | rw [if_neg k_8] | rw [if_neg (by rw [k_8]; decide)] | skip) <;> (first | done | rw [if_pos k_10] | rw [if_neg k_10] | rw [if_neg (by rw [k_10]; decide)] | skip)
                  exact hP
                exact g_wi hx hb hr hlocks hAe hP hS dX4_place_155 (by rw [xPlR] <;> (first | done | rw [if_pos c_1] | rw [if_neg c_1] | rw [if_neg (by rw [c_1]; decide)] | skip) <;> (first | done | rw [if_pos k_2] | rw [if_neg k_2] | rw [if_neg (by rw [k_2]; decide)] | skip) <;> (first | done | rw [if_pos k_4] | rw [if_neg k_4] | rw [if_neg (by rw [k_4]; decide)] | skip) <;> (first | done | rw [if_pos k_5] | rw [if_neg k_5] | rw [if_neg (by rw [k_5]; decide)] | skip) <;> (first | done | rw [if_pos k_6] | rw [if_neg k_6] | rw [if_neg (by rw [k_6]; decide)] | skip) <;> (first | done | rw [if_pos k_8] | rw [if_neg k_8] | rw [if_neg (by rw [k_8]; decide)] | skip) <;> (first | done | rw [if_pos k_10] | rw [if_neg k_10] | rw [if_neg (by rw [k_10]; decide)] | skip) <;> (first | done | rfl | (simp only [c_1, k_2, k_4, k_5, k_6, k_8, k_10]; rfl) | (simp [c_1, k_2, k_4, k_5, k_6, k_8, k_10, bI]; done)))
  · skip
    have c_1 := bI_0 c_1
    refine lv_iconst (v := (-1)) hx hb dX4_place_11 (by decide) ?_
    have hP : va_P G.1 vwCl (wRi r b f a d tr ++ wHa a G.2.1 (xPlS h n p what)) sz.heap := by
      rw [xPlS] <;> (first | done | rw [if_pos c_1] | rw [if_neg c_1] | rw [if_neg (by rw [c_1]; decide)] | skip)
      exact hP
    exact g_wi hx hb hr hlocks hAe hP hS dX4_place_12 (by rw [xPlR] <;> (first | done | rw [if_pos c_1] | rw [if_neg c_1] | rw [if_neg (by rw [c_1]; decide)] | skip) <;> (first | done | rfl | (simp only [c_1]; rfl) | (simp [c_1, bI]; done)))
