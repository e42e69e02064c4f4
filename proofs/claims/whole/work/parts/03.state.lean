/-! ===== states, worlds, and what the methods of a moment and of a hall answer ===== -/
abbrev sh (o : Nat) (a : Nat → Nat) : Nat → Nat := fun k => a (o + k)
theorem gP_nil {D : va_G} {cl : List vw_C} {H : Heap} : va_P D cl [] H := fun k q h => by simp at h
theorem bI_fit (b : Bool) : fits .boolean (.int (bI b)) = true := by cases b <;> rfl
theorem gl_le {x y : Int32} (h : y ≤ x) : ¬ x < y := fun q => by
  rw [Int32.lt_iff_toInt_lt] at q
  rw [Int32.le_iff_toInt_le] at h
  omega
theorem gl_nle {x y : Int32} (h : ¬ y ≤ x) : x < y := by
  rw [Int32.le_iff_toInt_le] at h
  rw [Int32.lt_iff_toInt_lt]
  omega
theorem gl_nlt {x y : Int32} (h : ¬ x < y) : y ≤ x := by
  rw [Int32.lt_iff_toInt_lt] at h
  rw [Int32.le_iff_toInt_le]
  omega
theorem gl_lt {x y : Int32} (h : x < y) : ¬ y ≤ x := fun q => gl_le q h
theorem gl_in {sa : Int32} {n i : Nat} (hn : sa = nI n) (h1 : n < 2 ^ 31) (h2 : i < 2 ^ 31) (c : nI i < sa) : i < n := by rw [hn] at c; exact (nI_ltI h2 h1).mp c
theorem gl_ex {sa : Int32} {n i : Nat} (hn : sa = nI n) (h1 : n < 2 ^ 31) (h2 : i < 2 ^ 31) (c : ¬ nI i < sa) : n ≤ i := by
  rw [hn] at c
  exact Nat.le_of_not_lt (fun q => c ((nI_ltI h2 h1).mpr q))
theorem gl_cx {y : Int32} {k i : Nat} (hy : y = nI k) (hk : k < 2 ^ 31) (hi : i < 2 ^ 31) (c : y < nI i) : k < i := by rw [hy] at c; exact (nI_ltI hk hi).mp c
theorem gl_ci {y : Int32} {k i : Nat} (hy : y = nI k) (hk : k < 2 ^ 31) (hi : i < 2 ^ 31) (c : ¬ y < nI i) : i ≤ k := by
  rw [hy] at c
  exact Nat.le_of_not_lt (fun q => c ((nI_ltI hk hi).mpr q))
/-- bits, sums, counts and the first of what a row of yes and no tells -/
def bitsOf (q : Nat → Bool) : Nat → Int32
  | 0 => 0
  | i + 1 => if q i then bitsOf q i ||| ((1 : Int32) <<< (nI i &&& 31)) else bitsOf q i
def sumOf (q : Nat → Bool) (f : Nat → Int32) : Nat → Int32
  | 0 => 0
  | i + 1 => if q i then sumOf q f i + f i else sumOf q f i
def cntOf (q : Nat → Bool) : Nat → Nat
  | 0 => 0
  | i + 1 => if q i then cntOf q i + 1 else cntOf q i
def firstF (q : Nat → Bool) : Nat → Nat → Option Nat
  | 0, _ => none
  | f + 1, i => if q i then some i else firstF q f (i + 1)
def oI : Option Nat → Int32
  | some i => nI i
  | none => -9
theorem bO_y {q : Nat → Bool} {i : Nat} {x : Int32} (hx : x = bitsOf q i) (h : q i = true) : x ||| ((1 : Int32) <<< (nI i &&& 31)) = bitsOf q (i + 1) := by rw [hx, bitsOf, if_pos h]
theorem bO_n {q : Nat → Bool} {i : Nat} {x : Int32} (hx : x = bitsOf q i) (h : q i = false) : x = bitsOf q (i + 1) := by rw [hx, bitsOf, if_neg (by rw [h]; decide)]
theorem sO_y {q : Nat → Bool} {f : Nat → Int32} {i : Nat} {x : Int32} (hx : x = sumOf q f i) (h : q i = true) : x + f i = sumOf q f (i + 1) := by rw [hx, sumOf, if_pos h]
theorem sO_n {q : Nat → Bool} {f : Nat → Int32} {i : Nat} {x : Int32} (hx : x = sumOf q f i) (h : q i = false) : x = sumOf q f (i + 1) := by rw [hx, sumOf, if_neg (by rw [h]; decide)]
theorem cO_y {q : Nat → Bool} {i : Nat} {x : Nat} (hx : x = cntOf q i) (h : q i = true) : x + 1 = cntOf q (i + 1) := by rw [hx, cntOf, if_pos h]
theorem cO_n {q : Nat → Bool} {i : Nat} {x : Nat} (hx : x = cntOf q i) (h : q i = false) : x = cntOf q (i + 1) := by rw [hx, cntOf, if_neg (by rw [h]; decide)]
theorem cO_le (q : Nat → Bool) : ∀ n, cntOf q n ≤ n
  | 0 => Nat.le_refl _
  | n + 1 => by
    have h := cO_le q n
    rw [cntOf]
    split <;> omega
theorem fF_y {q : Nat → Bool} {N i : Nat} (he : firstF q N 0 = firstF q (N - i) i) (hi : i < N) (hq : q i = true) : firstF q N 0 = some i := by
  rw [he, show N - i = (N - (i + 1)) + 1 by omega, firstF, if_pos hq]
theorem fF_n {q : Nat → Bool} {N i : Nat} (he : firstF q N 0 = firstF q (N - i) i) (hi : i < N) (hq : q i = false) : firstF q N 0 = firstF q (N - (i + 1)) (i + 1) := by
  rw [he, show N - i = (N - (i + 1)) + 1 by omega, firstF, if_neg (by rw [hq]; decide)]
theorem fF_e {q : Nat → Bool} {N i : Nat} (he : firstF q N 0 = firstF q (N - i) i) (hi : N ≤ i) : firstF q N 0 = none := by
  rw [he, show N - i = 0 by omega, firstF]
theorem oI_s {o : Option Nat} {i : Nat} (h : o = some i) : nI i = oI o := by rw [h]; rfl
theorem oI_n {o : Option Nat} (h : o = none) : (-9) = oI o := by rw [h]; rfl
theorem tt2 {a b : Prop} [Decidable a] [Decidable b] (h1 : a) (h2 : b) : (decide a && decide b) = true := by simp [h1, h2]
theorem ff1 {a b : Prop} [Decidable a] [Decidable b] (h1 : ¬ a) : (decide a && decide b) = false := by simp [h1]
theorem ff2 {a b : Prop} [Decidable a] [Decidable b] (h1 : ¬ b) : (decide a && decide b) = false := by simp [h1]
/-- a row whose first places are filled anew -/
def lsF (f g : Nat → Int32) (i : Nat) : Nat → Int32 := fun j => if j < i then f j else g j
theorem lsF_0 (f g : Nat → Int32) : lsF f g 0 = g := by
  funext j
  simp [lsF]
theorem lsF_s {f g : Nat → Int32} {i : Nat} {x : Int32} (hx : x = f i) : upd (lsF f g i) i x = lsF f g (i + 1) := by
  funext j
  simp only [upd, lsF, hx]
  by_cases h : j = i
  · subst h; simp
  · by_cases h2 : j < i
    · rw [if_neg h, if_pos h2, if_pos (by omega)]
    · rw [if_neg h, if_neg h2, if_neg (by omega)]
abbrev MoS : Type := Int32 × Int32 × Int32 × Int32 × (Nat → Int32) × (Nat → Int32) × (Nat → Int32) × (Nat → Int32) × (Nat → Int32) × (Nat → Int32)
abbrev MoS.tick (m : MoS) : Int32 := m.1
abbrev MoS.sayings (m : MoS) : Int32 := m.2.1
abbrev MoS.hushed (m : MoS) : Int32 := m.2.2.1
abbrev MoS.noted (m : MoS) : Int32 := m.2.2.2.1
abbrev MoS.frm (m : MoS) : Nat → Int32 := m.2.2.2.2.1
abbrev MoS.speed (m : MoS) : Nat → Int32 := m.2.2.2.2.2.1
abbrev MoS.way (m : MoS) : Nat → Int32 := m.2.2.2.2.2.2.1
abbrev MoS.loud (m : MoS) : Nat → Int32 := m.2.2.2.2.2.2.2.1
abbrev MoS.said (m : MoS) : Nat → Int32 := m.2.2.2.2.2.2.2.2.1
abbrev MoS.deeds (m : MoS) : Nat → Int32 := m.2.2.2.2.2.2.2.2.2
def wMo (a : Nat → Nat) (cI : ClassId) (m : MoS) : va_W := [(a 0, .inr (2, [.int m.tick, .int m.sayings, .int m.hushed, .int m.noted, .ref (a 1), .ref (a 2), .ref (a 3), .ref (a 4), .ref (a 5), .ref (a 6)])), (a 1, .inl (cI, 8, .inl m.frm)), (a 2, .inl (cI, 8, .inl m.speed)), (a 3, .inl (cI, 8, .inl m.way)), (a 4, .inl (cI, 8, .inl m.loud)), (a 5, .inl (cI, 8, .inl m.said)), (a 6, .inl (cI, 10, .inl m.deeds))]
abbrev HaS : Type := Int32 × Int32 × Int32 × MoS × (Nat → Int32) × (Nat → Int32)
abbrev HaS.pl (h : HaS) : Int32 := h.1
abbrev HaS.loss (h : HaS) : Int32 := h.2.1
abbrev HaS.nich (h : HaS) : Int32 := h.2.2.1
abbrev HaS.mo (h : HaS) : MoS := h.2.2.2.1
abbrev HaS.ats (h : HaS) : Nat → Int32 := h.2.2.2.2.1
abbrev HaS.str (h : HaS) : Nat → Int32 := h.2.2.2.2.2
def wHa (a : Nat → Nat) (cI : ClassId) (h : HaS) : va_W := [(a 0, .inr (0, [.int h.pl, .int h.loss, .int h.nich, .ref (a 1), .ref (a 8), .ref (a 9)])), (a 1, .inr (2, [.int h.mo.tick, .int h.mo.sayings, .int h.mo.hushed, .int h.mo.noted, .ref (a 2), .ref (a 3), .ref (a 4), .ref (a 5), .ref (a 6), .ref (a 7)])), (a 2, .inl (cI, 8, .inl h.mo.frm)), (a 3, .inl (cI, 8, .inl h.mo.speed)), (a 4, .inl (cI, 8, .inl h.mo.way)), (a 5, .inl (cI, 8, .inl h.mo.loud)), (a 6, .inl (cI, 8, .inl h.mo.said)), (a 7, .inl (cI, 10, .inl h.mo.deeds)), (a 8, .inl (cI, 8, .inl h.ats)), (a 9, .inl (cI, 8, .inl h.str))]
/-- within, floorMod, bitCount -/
def wIn (x lo hi : Int32) : Bool := !decide (x < lo) && !decide (hi < x)
def jFm (x y : Int32) : Int32 := if x ^^^ y < 0 then (if x - x / y * y = 0 then x - x / y * y else x - x / y * y + y) else x - x / y * y
def jU (x : Int32) (k : Int32) : Int32 := (x.toUInt32 >>> (k.toUInt32 &&& Int32.toUInt32 31)).toInt32
def jB1 (x : Int32) : Int32 := x - (jU x 1 &&& 1431655765)
def jB2 (x : Int32) : Int32 := (x &&& 858993459) + (jU x 2 &&& 858993459)
def jB3 (x : Int32) : Int32 := (x + jU x 4) &&& 252645135
def jB4 (x : Int32) : Int32 := x + jU x 8
def jB5 (x : Int32) : Int32 := x + jU x 16
def jBc (x : Int32) : Int32 := jB5 (jB4 (jB3 (jB2 (jB1 x)))) &&& 63
/-- a set has k -/
def hasB (x k : Int32) : Bool := decide ((x >>> (k &&& 31)) &&& 1 = 1)
/-- a hall's answers -/
def hReach (h : HaS) (p way gone : Int32) : Int32 := if 0 < h.pl then jFm (if way = 0 then p + gone else p - gone) h.pl else 0
def hLaps (h : HaS) (gone : Int32) : Int32 := if 0 < h.pl then gone / h.pl else 0
def hLeft (h : HaS) (loud gone : Int32) : Int32 := if 0 < loud - h.loss * hLaps h gone then loud - h.loss * hLaps h gone else 0
def hGone (h : HaS) (s : Nat) (k : Int32) : Int32 := h.mo.speed s * (h.mo.tick + k - h.mo.said s)
def hPlace (h : HaS) (s : Nat) (k : Int32) : Int32 := hReach h (h.mo.frm s) (h.mo.way s) (hGone h s k)
def hStr (h : HaS) (s : Nat) (k : Int32) : Int32 := if hasB h.mo.hushed (nI s) then 0 else hLeft h (h.mo.loud s) (hGone h s k)
def hSnd (h : HaS) (s : Nat) (p k : Int32) : Bool := decide (hPlace h s k = p) && decide (0 < hStr h s k)
/-- with where all are, and how strong, noted -/
def hLis (h : HaS) (n : Nat) (k : Int32) : HaS := (h.pl, h.loss, h.nich, h.mo, lsF (fun s => hPlace h s k) h.ats n, lsF (fun s => hStr h s k) h.str n)
def hSndB (h : HaS) (n : Nat) (p : Int32) : Int32 := bitsOf (fun s => decide (h.ats s = p) && decide (0 < h.str s)) n
def hStrAt (h : HaS) (n : Nat) (p : Int32) : Int32 := sumOf (fun s => decide (h.ats s = p)) h.str n
def hClear (h : HaS) (n : Nat) (p : Int32) : Int32 := oI (firstF (fun s => decide (h.ats s = p) && decide (hStrAt h n p < 2 * h.str s)) n 0)
def hSea (h : HaS) (n : Nat) (p : Int32) : Bool := !decide (hSndB h n p = 0) && decide (hClear h n p = -9)
def hLast (h : HaS) (n : Nat) : Int32 := bitsOf (fun s => decide (0 < h.str s)) n
def hStrOf (h : HaS) (n : Nat) (b : Int32) : Int32 := sumOf (fun s => hasB b (nI s)) h.str n
def hNSnd (h : HaS) (n N : Nat) : Int32 := nI (cntOf (fun p => !decide (hSndB h n (nI p) = 0)) N)
def hNSea (h : HaS) (n N : Nat) : Int32 := nI (cntOf (fun p => hSea h n (nI p)) N)
def hFewL (h : HaS) (n s : Nat) (o : Int32) : Nat → Int32
  | 0 => o
  | k + 1 => if jBc (nI k) < jBc (hFewL h n s o k) then (if nI k &&& (o ^^^ (-1)) = 0 then (if hStrOf h n (o &&& (nI k ^^^ (-1))) < h.str s then nI k else hFewL h n s o k) else hFewL h n s o k) else hFewL h n s o k
def hOth (h : HaS) (n s : Nat) : Int32 := hSndB h n (h.ats s) &&& (((1 : Int32) <<< (nI s &&& 31)) ^^^ (-1))
def hLastOf (h : HaS) (s : Nat) : Int32 := oI (firstF (fun k => decide (hStr h s (nI k) = 0)) 1000 0)
def hQuiF (h : HaS) (n : Nat) (p : Int32) : Option Nat := firstF (fun k => decide (hSndB (hLis h n (nI k)) n p = 0)) 100 0
def hWhen (h : HaS) (s : Nat) (p : Int32) : Int32 := oI (firstF (fun k => hSnd h s p (nI k)) 1000 0)
def hOften (h : HaS) (s : Nat) (p : Int32) : Int32 := nI (cntOf (fun k => hSnd h s p (nI k)) 1000)
def hMeet (h : HaS) (s t : Nat) : Int32 := oI (firstF (fun k => decide (0 < hStr h s (nI k)) && hSnd h t (hPlace h s (nI k)) (nI k)) 1000 0)
def hTicksTo (h : HaS) (N : Nat) (p q sp way : Int32) : Int32 := oI (firstF (fun k => decide (hReach h p way (sp * nI k) = q)) N 0)
def hWaitF (h : HaS) (n : Nat) (q un ow : Int32) : Option Nat := firstF (fun k => decide (hStrAt (hLis h n (nI k + un)) n q < ow)) 100 0
