theorem mRd_rd (t : MdS) (u : Nat → Int32) : (mRd t u).read = u := rfl
theorem mRd_mRd (t : MdS) (u v : Nat → Int32) : mRd (mRd t u) v = mRd t v := rfl
/-- the model while it reads: Z bytes, at x, n sayings read -/
def dG (Z x n : Nat) (t : MdS) : Prop := t.len = nI Z ∧ t.pos = nI x ∧ x ≤ Z ∧ t.read 1 = nI n ∧ n ≤ 8
theorem dG.ok {Z x n : Nat} {t : MdS} (h : dG Z x n t) (hZ : Z ≤ 120) : dOK t := ⟨Z, x, hZ, h.2.2.1, h.1, h.2.1⟩
theorem dG_pos {Z x y n : Nat} {t : MdS} {v : Int32} (h : dG Z x n t) (hv : v = nI y) (hy : y ≤ Z) : dG Z y n (mPos t v) := ⟨h.1, hv, hy, h.2.2.2.1, h.2.2.2.2⟩
theorem dG_wr {Z x n : Nat} {t : MdS} {v : Int32} (h : dG Z x n t) : dG Z x n (mWr t v) := h
theorem dG_it {Z x n : Nat} {t : MdS} {v : Int32} (h : dG Z x n t) : dG Z x n (mIt t v) := h
theorem dG_rp {Z x n : Nat} {t : MdS} {v : Int32} (h : dG Z x n t) : dG Z x n (mRp t v) := h
theorem dG_rl {Z x n : Nat} {t : MdS} {v : Int32} (h : dG Z x n t) : dG Z x n (mRl t v) := h
theorem dG_sl {Z x n : Nat} {t : MdS} {v : Int32} (h : dG Z x n t) : dG Z x n (mSl t v) := h
theorem dG_rn {Z x n : Nat} {t : MdS} {v : Int32} (h : dG Z x n t) : dG Z x n (mRn t v) := h
theorem dG_rd {Z x n k : Nat} {t : MdS} {f : Nat → Int32} (h : dG Z x n t) (hf : f 1 = nI k) (hk : k ≤ 8) : dG Z x k (mRd t f) := ⟨h.1, h.2.1, h.2.2.1, hf, hk⟩
theorem dG_skp {Z x n : Nat} {t : MdS} (hZ : Z ≤ 120) (h : dG Z x n t) : ∃ y, x ≤ y ∧ y = stQ t.text Z x ∧ dG Z y n (dSkp t) := by
  have hl := stQ_le (B := t.text) h.2.2.1
  refine ⟨_, hl.1, rfl, ?_⟩
  rw [dSkp_eq hZ h.2.2.1 h.1 h.2.1]
  exact dG_pos h rfl hl.2
theorem dG_end {Z x n : Nat} {t : MdS} (hZ : Z ≤ 120) (h : dG Z x n t) : ∃ y, x ≤ y ∧ dG Z y n (dEnd t) := by
  rw [dEnd_def, dEndD]
  obtain ⟨y, hy, -, h2⟩ := dG_skp hZ h
  generalize dSkp t = u at h2
  split
  · split
    · rename_i c
      have hl := (dHere_y h2.1 h2.2.1 hZ h2.2.2.1 (by decide) c).1
      exact ⟨y + 1, by omega, dG_it (dG_pos h2 (by rw [h2.2.1]; exact nI_1 y) hl)⟩
    · exact ⟨y, hy, dG_wr h2⟩
  · exact ⟨x, Nat.le_refl _, h⟩
theorem dG_num {Z x n : Nat} {t : MdS} {lo hi : Int32} (hZ : Z ≤ 120) (h : dG Z x n t) : ∃ y, x ≤ y ∧ dG Z y n (dNum t lo hi) := by
  rw [dNum_def, dNumD]
  obtain ⟨y, hy, -, h2⟩ := dG_skp hZ h
  generalize dSkp t = u at h2
  split
  · split
    · have hr := runD_le (B := u.text) (Z := Z) (Z - y) y
      have hyZ := h2.2.2.1
      refine ⟨y + dNumC u, by omega, dG_pos h2 (by rw [h2.2.1]; exact nI_add y _) ?_⟩
      unfold dNumC dgC
      rw [h2.1, h2.2.1, nI_clamp (by omega), nI_clamp (by omega)]
      omega
    · exact ⟨y, hy, dG_wr h2⟩
  · exact ⟨x, Nat.le_refl _, h⟩
theorem dG_ns {Z x n i : Nat} {t : MdS} {lo hi : Int32} (hZ : Z ≤ 120) (hi1 : 2 ≤ i) (h : dG Z x n t) : ∃ y, x ≤ y ∧ dG Z y n (dNS t i lo hi) := by
  obtain ⟨y, hy, h2⟩ := dG_num (lo := lo) (hi := hi) hZ h
  refine ⟨y, hy, dG_rd h2 ?_ h2.2.2.2.2⟩
  rw [pk_un (by omega)]
  exact h2.2.2.2.1
theorem dG_say {Z x n : Nat} {t : MdS} (hZ : Z ≤ 120) (hn : n < 8) (h : dG Z x n t) : ∃ y, x ≤ y ∧ dG Z y (n + 1) (dSay t n) := by
  rw [dSay_def, dSayD]
  obtain ⟨y1, g1, h1⟩ := dG_ns (i := 2 + n) (lo := 0) (hi := t.rp - 1) hZ (by omega) h
  generalize dNS t (2 + n) 0 (t.rp - 1) = u1 at h1
  obtain ⟨y2, g2, h2⟩ := dG_ns (i := 10 + n) (lo := 1) (hi := 6) hZ (by omega) h1
  generalize dNS u1 (10 + n) 1 6 = u2 at h2
  obtain ⟨y3, g3, h3⟩ := dG_ns (i := 18 + n) (lo := 0) (hi := 1) hZ (by omega) h2
  generalize dNS u2 (18 + n) 0 1 = u3 at h3
  obtain ⟨y4, g4, h4⟩ := dG_ns (i := 26 + n) (lo := 1) (hi := 30) hZ (by omega) h3
  generalize dNS u3 (26 + n) 1 30 = u4 at h4
  obtain ⟨y5, g5, h5⟩ := dG_end hZ (show dG Z y4 (n + 1) (dS5 u4) from dG_rd h4 (by rw [pk_us, h4.2.2.2.1]; exact nI_1 n) (by omega))
  exact ⟨y5, by omega, h5⟩
theorem dG_in {Z x n : Nat} {t : MdS} (h : dG Z x n t) (hx : x < Z) : dG Z (x + 1) n (dIn t) := dG_pos h (by rw [h.2.1]; exact nI_1 x) hx
theorem dG_itm {Z x n : Nat} {t : MdS} (hZ : Z ≤ 120) (h : dG Z x n t) (hx : x < Z) : (∃ y k, dG Z y k (dItm t)) ∧ ((dItm t).wrong < 0 → x < (dItm t).pos.toNatClampNeg) := by
  have key : (∃ y k, x < y ∧ dG Z y k (dItm t)) ∨ ((∃ y k, dG Z y k (dItm t)) ∧ (dItm t).wrong = nI x) := by
    have hin := dG_in h hx
    rw [dItm_def, dItmD]
    by_cases c : (dMay t && dAlone t) = true
    · rw [if_pos c]
      refine Or.inl ?_
      have hm : dMay t = true := by
        rw [Bool.and_eq_true] at c
        exact c.1
      generalize hu : dIn t = u at hin
      split
      · obtain ⟨y, hy, h2⟩ := dG_num (lo := 4) (hi := 24) hZ hin
        obtain ⟨z, hz, h3⟩ := dG_end hZ (dG_rp (v := dNumR u 4 24) h2)
        exact ⟨z, n, by omega, h3⟩
      · split
        · obtain ⟨y, hy, h2⟩ := dG_num (lo := 1) (hi := 9) hZ (dG_sl (v := 1) hin)
          obtain ⟨z, hz, h3⟩ := dG_end hZ (dG_rl (v := dNumR (mSl u 1) 1 9) h2)
          exact ⟨z, n, by omega, h3⟩
        · split
          · obtain ⟨y, hy, h2⟩ := dG_num (lo := 0) (hi := u.rp - 1) hZ hin
            obtain ⟨z, hz, h3⟩ := dG_end hZ (dG_rn (v := u.rn ||| ((1 : Int32) <<< (dNumR u 0 (u.rp - 1) &&& 31))) h2)
            exact ⟨z, n, by omega, h3⟩
          · rename_i c1 c2 c3
            have hn7 : n < 8 := by
              rw [dMay] at hm
              simp [c1, c2, c3] at hm
              have h8 := hm.2
              rw [h.2.2.2.1] at h8
              have := h.2.2.2.2
              exact (nI_ltI (by omega) (by decide)).mp (show nI n < nI 8 from h8)
            rw [h.2.2.2.1, nI_clamp (by omega)]
            obtain ⟨y, hy, h2⟩ := dG_say hZ hn7 hin
            exact ⟨y, n + 1, by omega, h2⟩
    · rw [if_neg c]
      exact Or.inr ⟨⟨x, n, dG_wr h⟩, h.2.1⟩
  rcases key with ⟨y, k, hy, hg⟩ | ⟨hg, hw⟩
  · refine ⟨⟨y, k, hg⟩, fun _ => ?_⟩
    rw [hg.2.1, nI_clamp (Nat.lt_of_le_of_lt hg.2.2.1 (by omega))]
    exact hy
  · refine ⟨hg, fun q => ?_⟩
    rw [hw] at q
    exact absurd q (nI_pos (by omega))
noncomputable def dLp : Nat → MdS → MdS
  | 0, t => t
  | f + 1, t => if t.wrong < 0 then (if t.pos < t.len then dLp f (if (dItm t).wrong < 0 then dSkp (dItm t) else dItm t) else t) else t
theorem dLp_w {f : Nat} {t : MdS} (h : ¬ t.wrong < 0) : dLp f t = t := by
  cases f with
  | zero => rfl
  | succ f => rw [dLp, if_neg h]
theorem dLp_p {f : Nat} {t : MdS} (h : ¬ t.pos < t.len) : dLp f t = t := by
  cases f with
  | zero => rfl
  | succ f =>
    rw [dLp, if_neg h]
    split <;> rfl
def dIn0 (m : MdS) : MdS := mRn (mSl (mRl (mRp (mIt (mWr (mPos m 0) (-1)) 0) 12) 1) 0) 0
def dIni (m : MdS) : MdS := mRd (dIn0 m) (lsF (fun _ => 0) (dIn0 m).read 50)
def dGp (Z : Nat) (t : MdS) : Prop := t.len = nI Z ∧ t.pos = nI 0
theorem dGp_wr {Z : Nat} {t : MdS} {v : Int32} (h : dGp Z t) : dGp Z (mWr t v) := h
theorem dGp_it {Z : Nat} {t : MdS} {v : Int32} (h : dGp Z t) : dGp Z (mIt t v) := h
theorem dGp_rp {Z : Nat} {t : MdS} {v : Int32} (h : dGp Z t) : dGp Z (mRp t v) := h
theorem dGp_rl {Z : Nat} {t : MdS} {v : Int32} (h : dGp Z t) : dGp Z (mRl t v) := h
theorem dGp_sl {Z : Nat} {t : MdS} {v : Int32} (h : dGp Z t) : dGp Z (mSl t v) := h
theorem dGp_rn {Z : Nat} {t : MdS} {v : Int32} (h : dGp Z t) : dGp Z (mRn t v) := h
theorem dGp_pos {Z : Nat} {t : MdS} {v : Int32} (h : t.len = nI Z) (hv : v = nI 0) : dGp Z (mPos t v) := ⟨h, hv⟩
theorem dGp_rd {Z : Nat} {t : MdS} {f : Nat → Int32} (h : dGp Z t) (hf : f 1 = nI 0) : dG Z 0 0 (mRd t f) := ⟨h.1, h.2, Nat.zero_le _, hf, Nat.zero_le _⟩
theorem dG_ini {m : MdS} {Z : Nat} (hZ : Z ≤ 120) (hz : m.len = nI Z) : dG Z 0 0 (dIni m) := by
  unfold dIni
  refine dGp_rd ?_ (by rw [lsF, if_pos (by decide)]; rfl)
  unfold dIn0
  exact dGp_rn (dGp_sl (dGp_rl (dGp_rp (dGp_it (dGp_wr (dGp_pos hz rfl))))))
noncomputable def dGal0 (m : MdS) : MdS := dLp 121 (dSkp (dIni m))
def dCom (t : MdS) : MdS := (t.text, 0, t.rp, t.rl, t.rn, (va_cpy t.read t.st 0 0 50), t.book, 0, t.imgs, (upd (upd t.kept 0 0) 1 0), t.heard, 0, t.trail, t.pos, t.wrong, t.items, t.rp, t.rl, t.sl, t.rn, t.read)
noncomputable def dGalS (m : MdS) : MdS := if (dGal0 m).wrong < 0 then dCom (dGal0 m) else dGal0 m
noncomputable def dGalR (m : MdS) : Int32 := if (dGal0 m).wrong < 0 then (dGal0 m).items else (-10) - (dGal0 m).wrong
