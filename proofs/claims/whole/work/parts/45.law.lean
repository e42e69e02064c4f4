/-! THE CLAIM OUT OF ONE WALK OF THE LAW'S BODY. Your part is whole_start (and what it stands on); all else here is the same for every law, but numbers. -/
def R_law : String := "WhisperRingLaw"
def lw_P (b : Addr) (xs : List Int32) (args : Array Value) (s : State) : Prop := args = #[.ref b] ∧ s.IntsAt b xs ∧ xs.length ≤ 3072 ∧ (Jvm.Cond.and given_1 narrow_1).before args s = true
def lw_Q (_ : Array Value) (s : State) (o : Outcome) (t : State) : Prop := o = .returned (some (.int 1)) ∧ Framed s o t [] 600000 7302250
def lw_Z (below : List Frame) (a : Array Value) (s : State) : State → Prop := fun t => ∃ o, t.status = .running ∧ Ended t below o ∧ lw_Q a s o t
/-- the law's own end, with 1 on the stack, nothing written that was there before, its room as the claim has it -/
theorem lw_ret {p : Program} {l : Launch} {e : Env} {s : State} {m : MethodId} {below : List Frame} {meth : Method} {c : Code} {b : Nat} (hx : p.tables.exec = Jvm.exec) (hb : c.code = code) (hr : meth.sig.returnType = ret) (hlocks : meth.locks = false) {pc : Nat} {H : Heap} {ls : Array Slot} (hdg : decode code pc = .ok (.ireturn, 1)) : W p l e room_1 s m #[Value.ref b] below meth c H [] 600000 7302250 (lw_Z below #[Value.ref b] s) (F0 m pc ls [.int 1]) := by
  intro T hT X
  obtain ⟨fs, hret, hrun, hended, hW, hframe⟩ := X.leave (v := some (.int 1)) (hlocks := hlocks) (fun h => by rw [hr] at h; cases h)
  have hmeth' : T.vm.method? m = some meth := X.method'
  refine ⟨T.setFrames fs, ?_, .returned (some (.int 1)), hrun, hended, rfl, ⟨_, rfl⟩, hW, hframe⟩
  jvm_step X.here [X.here.top, hx, hb, hdg, hmeth', hr, ret, narrow_b1]
  (try refine ⟨rfl, ?_⟩); (try refine ⟨rfl, ?_⟩)
  first | (intro acts; rw [hret _ acts rfl rfl rfl]) | rw [hret _ _ rfl rfl rfl]
  exact Steps.refl _
/-- what holds at the law's entry: the machine, the code, the tables' words (any of lw_tbl by 'hts w (by decide +kernel)'), the script of L ints xs at the cell b, what the Statement gives of the start (any of its parts by flat_of_before) -/
def lw_At (p : Program) (s : State) (m : MethodId) (meth : Method) (c : Code) (b L : Nat) (xs : Nat → Int32) : Prop :=
  p.tables.exec = Jvm.exec ∧ c.code = code ∧ meth.sig.returnType = ret ∧ c.maxLocals = 4 ∧ s.vm.findClass R_law = some m.cls ∧ (∀ w ∈ lw_tbl, w.before #[Value.ref b] s = true) ∧ va_X b L xs s s.heap ∧ b < s.heap.size ∧ meth.locks = false ∧ (Jvm.Cond.and given_1 narrow_1).before #[Value.ref b] s = true

/-! the law's world -/
def wLw (r b f i j a d q : Nat → Nat) (tr : Int64) (G : gG) (sc : ScS) (u : HeS) (m0 m1 : MoS) (ke : Nat → Int32) (g h : HaS) (ga : Nat → Int32) (m : MdS) : va_W := wRi r b f a d tr ++ (wSc b G.2.1 sc ++ (wHe f G.2.1 u ++ (wAq (r 1) G.2.2.2 2 (imF i j) ++ (wMo i G.2.1 m0 ++ (wMo j G.2.1 m1 ++ (wAr (r 2) G.2.2.1 2 ke ++ (wHa d G.2.1 g ++ (wHa a G.2.1 h ++ (wAr (r 3) G.2.1 24 ga ++ (wMd q G.2.1 G.2.2.1 m ++ []))))))))))
theorem P_sc {r b f i j a d q : Nat → Nat} {tr : Int64} {G : gG} {sc : ScS} {u : HeS} {m0 m1 : MoS} {ke : Nat → Int32} {g h : HaS} {ga : Nat → Int32} {m : MdS} : (wLw r b f i j a d q tr G sc u m0 m1 ke g h ga m).Perm ((wRi r b f a d tr ++ wSc b G.2.1 sc) ++ (wHe f G.2.1 u ++ (wAq (r 1) G.2.2.2 2 (imF i j) ++ (wMo i G.2.1 m0 ++ (wMo j G.2.1 m1 ++ (wAr (r 2) G.2.2.1 2 ke ++ (wHa d G.2.1 g ++ (wHa a G.2.1 h ++ (wAr (r 3) G.2.1 24 ga ++ (wMd q G.2.1 G.2.2.1 m ++ [])))))))))) := by
  have h := (pk_y (s := wRi r b f a d tr) (pk_y (s := wSc b G.2.1 sc) (pk_n (s := wHe f G.2.1 u) (pk_n (s := wAq (r 1) G.2.2.2 2 (imF i j)) (pk_n (s := wMo i G.2.1 m0) (pk_n (s := wMo j G.2.1 m1) (pk_n (s := wAr (r 2) G.2.2.1 2 ke) (pk_n (s := wHa d G.2.1 g) (pk_n (s := wHa a G.2.1 h) (pk_n (s := wAr (r 3) G.2.1 24 ga) (pk_n (s := wMd q G.2.1 G.2.2.1 m) pk_e)))))))))))
  unfold wLw
  simp only [List.append_assoc, List.append_nil] at h ⊢
  exact h
theorem P_ha {r b f i j a d q : Nat → Nat} {tr : Int64} {G : gG} {sc : ScS} {u : HeS} {m0 m1 : MoS} {ke : Nat → Int32} {g h : HaS} {ga : Nat → Int32} {m : MdS} : (wLw r b f i j a d q tr G sc u m0 m1 ke g h ga m).Perm ((wRi r b f a d tr ++ wHa a G.2.1 h) ++ (wSc b G.2.1 sc ++ (wHe f G.2.1 u ++ (wAq (r 1) G.2.2.2 2 (imF i j) ++ (wMo i G.2.1 m0 ++ (wMo j G.2.1 m1 ++ (wAr (r 2) G.2.2.1 2 ke ++ (wHa d G.2.1 g ++ (wAr (r 3) G.2.1 24 ga ++ (wMd q G.2.1 G.2.2.1 m ++ [])))))))))) := by
  have h := (pk_y (s := wRi r b f a d tr) (pk_n (s := wSc b G.2.1 sc) (pk_n (s := wHe f G.2.1 u) (pk_n (s := wAq (r 1) G.2.2.2 2 (imF i j)) (pk_n (s := wMo i G.2.1 m0) (pk_n (s := wMo j G.2.1 m1) (pk_n (s := wAr (r 2) G.2.2.1 2 ke) (pk_n (s := wHa d G.2.1 g) (pk_y (s := wHa a G.2.1 h) (pk_n (s := wAr (r 3) G.2.1 24 ga) (pk_n (s := wMd q G.2.1 G.2.2.1 m) pk_e)))))))))))
  unfold wLw
  simp only [List.append_assoc, List.append_nil] at h ⊢
  exact h
theorem P_heha {r b f i j a d q : Nat → Nat} {tr : Int64} {G : gG} {sc : ScS} {u : HeS} {m0 m1 : MoS} {ke : Nat → Int32} {g h : HaS} {ga : Nat → Int32} {m : MdS} : (wLw r b f i j a d q tr G sc u m0 m1 ke g h ga m).Perm ((wRi r b f a d tr ++ wHe f G.2.1 u ++ wHa a G.2.1 h) ++ (wSc b G.2.1 sc ++ (wAq (r 1) G.2.2.2 2 (imF i j) ++ (wMo i G.2.1 m0 ++ (wMo j G.2.1 m1 ++ (wAr (r 2) G.2.2.1 2 ke ++ (wHa d G.2.1 g ++ (wAr (r 3) G.2.1 24 ga ++ (wMd q G.2.1 G.2.2.1 m ++ []))))))))) := by
  have h := (pk_y (s := wRi r b f a d tr) (pk_n (s := wSc b G.2.1 sc) (pk_y (s := wHe f G.2.1 u) (pk_n (s := wAq (r 1) G.2.2.2 2 (imF i j)) (pk_n (s := wMo i G.2.1 m0) (pk_n (s := wMo j G.2.1 m1) (pk_n (s := wAr (r 2) G.2.2.1 2 ke) (pk_n (s := wHa d G.2.1 g) (pk_y (s := wHa a G.2.1 h) (pk_n (s := wAr (r 3) G.2.1 24 ga) (pk_n (s := wMd q G.2.1 G.2.2.1 m) pk_e)))))))))))
  unfold wLw
  simp only [List.append_assoc, List.append_nil] at h ⊢
  exact h
theorem P_he {r b f i j a d q : Nat → Nat} {tr : Int64} {G : gG} {sc : ScS} {u : HeS} {m0 m1 : MoS} {ke : Nat → Int32} {g h : HaS} {ga : Nat → Int32} {m : MdS} : (wLw r b f i j a d q tr G sc u m0 m1 ke g h ga m).Perm ((wRi r b f a d tr ++ wHe f G.2.1 u) ++ (wSc b G.2.1 sc ++ (wAq (r 1) G.2.2.2 2 (imF i j) ++ (wMo i G.2.1 m0 ++ (wMo j G.2.1 m1 ++ (wAr (r 2) G.2.2.1 2 ke ++ (wHa d G.2.1 g ++ (wHa a G.2.1 h ++ (wAr (r 3) G.2.1 24 ga ++ (wMd q G.2.1 G.2.2.1 m ++ [])))))))))) := by
  have h := (pk_y (s := wRi r b f a d tr) (pk_n (s := wSc b G.2.1 sc) (pk_y (s := wHe f G.2.1 u) (pk_n (s := wAq (r 1) G.2.2.2 2 (imF i j)) (pk_n (s := wMo i G.2.1 m0) (pk_n (s := wMo j G.2.1 m1) (pk_n (s := wAr (r 2) G.2.2.1 2 ke) (pk_n (s := wHa d G.2.1 g) (pk_n (s := wHa a G.2.1 h) (pk_n (s := wAr (r 3) G.2.1 24 ga) (pk_n (s := wMd q G.2.1 G.2.2.1 m) pk_e)))))))))))
  unfold wLw
  simp only [List.append_assoc, List.append_nil] at h ⊢
  exact h
theorem P_hega {r b f i j a d q : Nat → Nat} {tr : Int64} {G : gG} {sc : ScS} {u : HeS} {m0 m1 : MoS} {ke : Nat → Int32} {g h : HaS} {ga : Nat → Int32} {m : MdS} : (wLw r b f i j a d q tr G sc u m0 m1 ke g h ga m).Perm ((wRi r b f a d tr ++ wHe f G.2.1 u ++ wHa a G.2.1 h ++ wAr (r 3) G.2.1 24 ga) ++ (wSc b G.2.1 sc ++ (wAq (r 1) G.2.2.2 2 (imF i j) ++ (wMo i G.2.1 m0 ++ (wMo j G.2.1 m1 ++ (wAr (r 2) G.2.2.1 2 ke ++ (wHa d G.2.1 g ++ (wMd q G.2.1 G.2.2.1 m ++ [])))))))) := by
  have h := (pk_y (s := wRi r b f a d tr) (pk_n (s := wSc b G.2.1 sc) (pk_y (s := wHe f G.2.1 u) (pk_n (s := wAq (r 1) G.2.2.2 2 (imF i j)) (pk_n (s := wMo i G.2.1 m0) (pk_n (s := wMo j G.2.1 m1) (pk_n (s := wAr (r 2) G.2.2.1 2 ke) (pk_n (s := wHa d G.2.1 g) (pk_y (s := wHa a G.2.1 h) (pk_y (s := wAr (r 3) G.2.1 24 ga) (pk_n (s := wMd q G.2.1 G.2.2.1 m) pk_e)))))))))))
  unfold wLw
  simp only [List.append_assoc, List.append_nil] at h ⊢
  exact h
theorem P_im {r b f i j a d q : Nat → Nat} {tr : Int64} {G : gG} {sc : ScS} {u : HeS} {m0 m1 : MoS} {ke : Nat → Int32} {g h : HaS} {ga : Nat → Int32} {m : MdS} : (wLw r b f i j a d q tr G sc u m0 m1 ke g h ga m).Perm ((wRi r b f a d tr ++ wAq (r 1) G.2.2.2 2 (imF i j) ++ wMo i G.2.1 m0 ++ wMo j G.2.1 m1 ++ wAr (r 2) G.2.2.1 2 ke ++ wHa a G.2.1 h) ++ (wSc b G.2.1 sc ++ (wHe f G.2.1 u ++ (wHa d G.2.1 g ++ (wAr (r 3) G.2.1 24 ga ++ (wMd q G.2.1 G.2.2.1 m ++ [])))))) := by
  have h := (pk_y (s := wRi r b f a d tr) (pk_n (s := wSc b G.2.1 sc) (pk_n (s := wHe f G.2.1 u) (pk_y (s := wAq (r 1) G.2.2.2 2 (imF i j)) (pk_y (s := wMo i G.2.1 m0) (pk_y (s := wMo j G.2.1 m1) (pk_y (s := wAr (r 2) G.2.2.1 2 ke) (pk_n (s := wHa d G.2.1 g) (pk_y (s := wHa a G.2.1 h) (pk_n (s := wAr (r 3) G.2.1 24 ga) (pk_n (s := wMd q G.2.1 G.2.2.1 m) pk_e)))))))))))
  unfold wLw
  simp only [List.append_assoc, List.append_nil] at h ⊢
  exact h
theorem P_co {r b f i j a d q : Nat → Nat} {tr : Int64} {G : gG} {sc : ScS} {u : HeS} {m0 m1 : MoS} {ke : Nat → Int32} {g h : HaS} {ga : Nat → Int32} {m : MdS} : (wLw r b f i j a d q tr G sc u m0 m1 ke g h ga m).Perm ((wRi r b f a d tr ++ wSc b G.2.1 sc ++ wHe f G.2.1 u ++ wHa a G.2.1 h) ++ (wAq (r 1) G.2.2.2 2 (imF i j) ++ (wMo i G.2.1 m0 ++ (wMo j G.2.1 m1 ++ (wAr (r 2) G.2.2.1 2 ke ++ (wHa d G.2.1 g ++ (wAr (r 3) G.2.1 24 ga ++ (wMd q G.2.1 G.2.2.1 m ++ [])))))))) := by
  have h := (pk_y (s := wRi r b f a d tr) (pk_y (s := wSc b G.2.1 sc) (pk_y (s := wHe f G.2.1 u) (pk_n (s := wAq (r 1) G.2.2.2 2 (imF i j)) (pk_n (s := wMo i G.2.1 m0) (pk_n (s := wMo j G.2.1 m1) (pk_n (s := wAr (r 2) G.2.2.1 2 ke) (pk_n (s := wHa d G.2.1 g) (pk_y (s := wHa a G.2.1 h) (pk_n (s := wAr (r 3) G.2.1 24 ga) (pk_n (s := wMd q G.2.1 G.2.2.1 m) pk_e)))))))))))
  unfold wLw
  simp only [List.append_assoc, List.append_nil] at h ⊢
  exact h
theorem P_ri {r b f i j a d q : Nat → Nat} {tr : Int64} {G : gG} {sc : ScS} {u : HeS} {m0 m1 : MoS} {ke : Nat → Int32} {g h : HaS} {ga : Nat → Int32} {m : MdS} : (wLw r b f i j a d q tr G sc u m0 m1 ke g h ga m).Perm ((wRi r b f a d tr) ++ (wSc b G.2.1 sc ++ (wHe f G.2.1 u ++ (wAq (r 1) G.2.2.2 2 (imF i j) ++ (wMo i G.2.1 m0 ++ (wMo j G.2.1 m1 ++ (wAr (r 2) G.2.2.1 2 ke ++ (wHa d G.2.1 g ++ (wHa a G.2.1 h ++ (wAr (r 3) G.2.1 24 ga ++ (wMd q G.2.1 G.2.2.1 m ++ []))))))))))) := by
  have h := (pk_y (s := wRi r b f a d tr) (pk_n (s := wSc b G.2.1 sc) (pk_n (s := wHe f G.2.1 u) (pk_n (s := wAq (r 1) G.2.2.2 2 (imF i j)) (pk_n (s := wMo i G.2.1 m0) (pk_n (s := wMo j G.2.1 m1) (pk_n (s := wAr (r 2) G.2.2.1 2 ke) (pk_n (s := wHa d G.2.1 g) (pk_n (s := wHa a G.2.1 h) (pk_n (s := wAr (r 3) G.2.1 24 ga) (pk_n (s := wMd q G.2.1 G.2.2.1 m) pk_e)))))))))))
  unfold wLw
  simp only [List.append_assoc, List.append_nil] at h ⊢
  exact h
theorem P_dr {r b f i j a d q : Nat → Nat} {tr : Int64} {G : gG} {sc : ScS} {u : HeS} {m0 m1 : MoS} {ke : Nat → Int32} {g h : HaS} {ga : Nat → Int32} {m : MdS} : (wLw r b f i j a d q tr G sc u m0 m1 ke g h ga m).Perm ((wRi r b f a d tr ++ wSc b G.2.1 sc ++ wHe f G.2.1 u ++ wAr (r 2) G.2.2.1 2 ke ++ wHa d G.2.1 g) ++ (wAq (r 1) G.2.2.2 2 (imF i j) ++ (wMo i G.2.1 m0 ++ (wMo j G.2.1 m1 ++ (wHa a G.2.1 h ++ (wAr (r 3) G.2.1 24 ga ++ (wMd q G.2.1 G.2.2.1 m ++ []))))))) := by
  have h := (pk_y (s := wRi r b f a d tr) (pk_y (s := wSc b G.2.1 sc) (pk_y (s := wHe f G.2.1 u) (pk_n (s := wAq (r 1) G.2.2.2 2 (imF i j)) (pk_n (s := wMo i G.2.1 m0) (pk_n (s := wMo j G.2.1 m1) (pk_y (s := wAr (r 2) G.2.2.1 2 ke) (pk_y (s := wHa d G.2.1 g) (pk_n (s := wHa a G.2.1 h) (pk_n (s := wAr (r 3) G.2.1 24 ga) (pk_n (s := wMd q G.2.1 G.2.2.1 m) pk_e)))))))))))
  unfold wLw
  simp only [List.append_assoc, List.append_nil] at h ⊢
  exact h
theorem P_md {r b f i j a d q : Nat → Nat} {tr : Int64} {G : gG} {sc : ScS} {u : HeS} {m0 m1 : MoS} {ke : Nat → Int32} {g h : HaS} {ga : Nat → Int32} {m : MdS} : (wLw r b f i j a d q tr G sc u m0 m1 ke g h ga m).Perm ((wMd q G.2.1 G.2.2.1 m) ++ (wRi r b f a d tr ++ (wSc b G.2.1 sc ++ (wHe f G.2.1 u ++ (wAq (r 1) G.2.2.2 2 (imF i j) ++ (wMo i G.2.1 m0 ++ (wMo j G.2.1 m1 ++ (wAr (r 2) G.2.2.1 2 ke ++ (wHa d G.2.1 g ++ (wHa a G.2.1 h ++ (wAr (r 3) G.2.1 24 ga ++ []))))))))))) := by
  have h := (pk_n (s := wRi r b f a d tr) (pk_n (s := wSc b G.2.1 sc) (pk_n (s := wHe f G.2.1 u) (pk_n (s := wAq (r 1) G.2.2.2 2 (imF i j)) (pk_n (s := wMo i G.2.1 m0) (pk_n (s := wMo j G.2.1 m1) (pk_n (s := wAr (r 2) G.2.2.1 2 ke) (pk_n (s := wHa d G.2.1 g) (pk_n (s := wHa a G.2.1 h) (pk_n (s := wAr (r 3) G.2.1 24 ga) (pk_y (s := wMd q G.2.1 G.2.2.1 m) pk_e)))))))))))
  unfold wLw
  simp only [List.append_assoc, List.append_nil] at h ⊢
  exact h
theorem P_sw {r b f i j a d q : Nat → Nat} {tr : Int64} {G : gG} {sc : ScS} {u : HeS} {m0 m1 : MoS} {ke : Nat → Int32} {g h : HaS} {ga : Nat → Int32} {m : MdS} : (wLw r b f i j d a q tr G sc u m0 m1 ke h g ga m).Perm ((wRi r b f d a tr ++ wSc b G.2.1 sc ++ wHe f G.2.1 u ++ wAr (r 2) G.2.2.1 2 ke ++ wHa d G.2.1 g) ++ (wAq (r 1) G.2.2.2 2 (imF i j) ++ (wMo i G.2.1 m0 ++ (wMo j G.2.1 m1 ++ (wHa a G.2.1 h ++ (wAr (r 3) G.2.1 24 ga ++ (wMd q G.2.1 G.2.2.1 m ++ []))))))) := by
  have h := (pk_y (s := wRi r b f d a tr) (pk_y (s := wSc b G.2.1 sc) (pk_y (s := wHe f G.2.1 u) (pk_n (s := wAq (r 1) G.2.2.2 2 (imF i j)) (pk_n (s := wMo i G.2.1 m0) (pk_n (s := wMo j G.2.1 m1) (pk_y (s := wAr (r 2) G.2.2.1 2 ke) (pk_n (s := wHa a G.2.1 h) (pk_y (s := wHa d G.2.1 g) (pk_n (s := wAr (r 3) G.2.1 24 ga) (pk_n (s := wMd q G.2.1 G.2.2.1 m) pk_e)))))))))))
  unfold wLw
  simp only [List.append_assoc, List.append_nil] at h ⊢
  exact h
theorem ad_ri (r b f a d : Nat → Nat) (tr : Int64) : (wRi r b f a d tr).map Prod.fst = [r 0] := rfl
theorem ad_sc (b : Nat → Nat) (c : ClassId) (s : ScS) : (wSc b c s).map Prod.fst = [b 0, b 1] := rfl
theorem ad_he (b : Nat → Nat) (c : ClassId) (s : HeS) : (wHe b c s).map Prod.fst = [b 0, b 1, b 2, b 3] := rfl
theorem ad_mo (b : Nat → Nat) (c : ClassId) (s : MoS) : (wMo b c s).map Prod.fst = [b 0, b 1, b 2, b 3, b 4, b 5, b 6] := rfl
theorem ad_ha (b : Nat → Nat) (c : ClassId) (s : HaS) : (wHa b c s).map Prod.fst = [b 0, b 1, b 2, b 3, b 4, b 5, b 6, b 7, b 8, b 9] := rfl
theorem ad_md (b : Nat → Nat) (c e : ClassId) (s : MdS) : (wMd b c e s).map Prod.fst = [b 0, b 1, b 2, b 3, b 4, b 5, b 6, b 7] := rfl
theorem ad_ar (q : Nat) (c : ClassId) (n : Nat) (f : Nat → Int32) : (wAr q c n f).map Prod.fst = [q] := rfl
theorem ad_aq (q : Nat) (c : ClassId) (n : Nat) (f : Nat → Option Nat) : (wAq q c n f).map Prod.fst = [q] := rfl
/-- between two calls -/
def lwI (G : gG) (A : Nat → Prop) (r0 q0 : Nat) (H : Heap) : Prop := ∃ (r b f i j a d q : Nat → Nat) (tr : Int64) (sc : ScS) (u : HeS) (m0 m1 : MoS) (ke : Nat → Int32) (g h : HaS) (ga : Nat → Int32) (m : MdS), r 0 = r0 ∧ q 0 = q0 ∧ va_P G.1 vwCl (wLw r b f i j a d q tr G sc u m0 m1 ke g h ga m) H ∧ va_D A (wLw r b f i j a d q tr G sc u m0 m1 ke g h ga m) ∧ rAll sc u h ke m0 m1 tr m
section
variable {sc : ScS} {u : HeS} {h : HaS} {ke : Nat → Int32} {m0 m1 : MoS} {tr : Int64} {m : MdS}
theorem z_pl (r : rAll sc u h ke m0 m1 tr m) (n : Nat) (p what : Int32) : rAll sc u (xPlS h n p what) ke m0 m1 tr m := by
  unfold xPlS
  split
  · split
    · unfold hQuiS
      exact rAll_lis r rfl rfl rfl rfl
    · exact rAll_lis r rfl rfl rfl rfl
  · exact r
theorem z_be (r : rAll sc u h ke m0 m1 tr m) (n N : Nat) (p q sp wa lo : Int32) : rAll sc u (xBeS h n N p q sp wa lo) ke m0 m1 tr m := by
  unfold xBeS
  split
  · split
    · split
      · exact r
      · split
        · exact r
        · unfold hWaitS
          exact rAll_lis r rfl rfl rfl rfl
    · exact r
  · exact r
theorem z_stl (r : rAll sc u h ke m0 m1 tr m) (n : Nat) (s : Int32) : rAll sc u (xStS h n s) ke m0 m1 tr m := by
  unfold xStS
  split
  · split
    · exact r
    · exact rAll_lis r rfl rfl rfl rfl
  · exact r
theorem lw_cmpE (x : Int64) : lg_cmp x x = 0 := by
  unfold lg_cmp
  simp
end
