/-! ===== worlds by segments: their order does not matter ===== -/
theorem vP_mem {D : va_G} {cl : List vw_C} {ws : va_W} {H : Heap} : va_P D cl ws H ↔ ∀ q ∈ ws, va_at D cl q H := by
  constructor
  · intro h q hq
    obtain ⟨k, hk⟩ := List.getElem?_of_mem hq
    exact h k q hk
  · intro h k q hk
    exact h q (List.mem_of_getElem? hk)
theorem vD_nd {A : Nat → Prop} {ws : va_W} : va_D A ws ↔ ws.Pairwise (fun a b => a.1 ≠ b.1) ∧ ∀ q ∈ ws, A q.1 := by
  rw [List.pairwise_iff_getElem]
  constructor
  · rintro ⟨h1, h2⟩
    refine ⟨fun i j hi hj hij e => ?_, fun q hq => ?_⟩
    · have := h1 i j ws[i] ws[j] (List.getElem?_eq_getElem hi) (List.getElem?_eq_getElem hj) e
      omega
    · obtain ⟨k, hk⟩ := List.getElem?_of_mem hq
      exact h2 k q hk
  · rintro ⟨h1, h2⟩
    refine ⟨fun i j p q hi hj e => ?_, fun k q hk => h2 q (List.mem_of_getElem? hk)⟩
    obtain ⟨hi', ei⟩ := List.getElem?_eq_some_iff.mp hi
    obtain ⟨hj', ej⟩ := List.getElem?_eq_some_iff.mp hj
    rcases Nat.lt_trichotomy i j with g | g | g
    · exact absurd (by rw [ei, ej]; exact e) (h1 i j hi' hj' g)
    · exact g
    · exact absurd (by rw [ei, ej]; exact e.symm) (h1 j i hj' hi' g)
theorem vP_perm {D : va_G} {cl : List vw_C} {x y : va_W} {H : Heap} (p : x.Perm y) (h : va_P D cl x H) : va_P D cl y H := vP_mem.mpr (fun q hq => vP_mem.mp h q (p.mem_iff.mpr hq))
theorem vD_perm {A : Nat → Prop} {x y : va_W} (p : x.Perm y) (h : va_D A x) : va_D A y := by
  obtain ⟨h1, h2⟩ := vD_nd.mp h
  exact vD_nd.mpr ⟨(p.pairwise_iff (fun h e => h e.symm)).mp h1, fun q hq => h2 q (p.mem_iff.mpr hq)⟩
theorem vP_left {D : va_G} {cl : List vw_C} {x y : va_W} {H : Heap} (h : va_P D cl (x ++ y) H) : va_P D cl x H := vP_mem.mpr (fun q hq => vP_mem.mp h q (List.mem_append_left _ hq))
theorem vD_left {A : Nat → Prop} {x y : va_W} (h : va_D A (x ++ y)) : va_D (fun _ => True) x := by
  obtain ⟨h1, h2⟩ := vD_nd.mp h
  exact vD_nd.mpr ⟨(List.pairwise_append.mp h1).1, fun _ _ => trivial⟩
theorem pk_y {s T c r : va_W} (h : T.Perm (c ++ r)) : (s ++ T).Perm ((s ++ c) ++ r) := by
  rw [List.append_assoc]
  exact h.append_left s
theorem pk_n {s T c r : va_W} (h : T.Perm (c ++ r)) : (s ++ T).Perm (c ++ (s ++ r)) := by
  refine (h.append_left s).trans ?_
  rw [← List.append_assoc, ← List.append_assoc]
  exact List.Perm.append_right r List.perm_append_comm
theorem pk_e : ([] : va_W).Perm ([] ++ []) := List.Perm.refl _
/-- some segments changed, at their old addresses -/
theorem seg_join {A0 : Nat → Prop} {D : va_G} {cl : List vw_C} {cs cs' rest : va_W} {H H1 : Heap} (hP : va_P D cl (cs ++ rest) H) (hD : va_D A0 (cs ++ rest)) (hk : ∀ q : Nat, q < H.size → ¬ gAd cs q → H1[q]? = H[q]?) (hP1 : va_P D cl cs' H1) (had : cs'.map Prod.fst = cs.map Prod.fst) : va_P D cl (cs' ++ rest) H1 ∧ va_D A0 (cs' ++ rest) := by
  refine ⟨vP_mem.mpr (fun q hq => ?_), gD_same (by rw [List.map_append, List.map_append, had]) hD⟩
  rcases List.mem_append.mp hq with g | g
  · exact vP_mem.mp hP1 q g
  · have ha := vP_mem.mp hP q (List.mem_append_right _ g)
    refine ha.kept (hk q.1 ha.lt (fun hm => ?_))
    obtain ⟨x, hx, hxe⟩ := List.mem_map.mp hm
    exact (List.pairwise_append.mp (vD_nd.mp hD).1).2.2 x hx q g hxe
section SEG
variable {p : Program} {l : Launch} {e : Env} {R : Room} {s : State} {m : MethodId} {args : Array Value} {below : List Frame} {meth : Method} {c : Code} {H : Heap} {locs : List Loc} {cells slots : Nat} {Q : State → Prop}
variable {cc : ByteArray} {pc : Nat} {ls : Array Slot} {rest st0 : List Value} {A : Nat → Prop} {ws : va_W} {H0 : Heap} {G : gG}
variable {y : MethodName} {bytes : ByteArray} {maxL nL n index d : Nat} {ret : Option FieldType} {Ts wy wy' : List Cond} {own C : String} {b : Nat} {As : List Value} {cs cs' L L' rs : va_W} {r : Int32}
/-- behind a run of a writer, over segments -/
theorem g_runL {ov : Option Value} {av : Array Value} (hr : va_Run p l e R s m args below meth c H locs cells slots 0 0 (F0 m pc ls st0) rest (gQ G cs cs' ov av) (gAd cs)) (hP0 : va_P G.1 vwCl (cs ++ rs) H) (hD0 : va_D A (cs ++ rs)) (hS : va_S A H0 H locs) (pm' : L'.Perm (cs' ++ rs)) (had : cs'.map Prod.fst = cs.map Prod.fst)
    (kk : ∀ (H1 : Heap) (locs1 : List Loc), va_P G.1 vwCl L' H1 → va_D A L' → va_S A H0 H1 locs1 → W p l e R s m args below meth c H1 locs1 cells slots Q (F0 m (pc + 3) ls (ov.toList ++ rest))) : W p l e R s m args below meth c H locs cells slots Q (F0 m pc ls st0) := by
  intro T hT X
  obtain ⟨v, st₀, t, T', L1, h0, X', hL, e1, e2, ⟨hv, hp1, hz, hk⟩, st⟩ := hr T hT X
  cases hv
  rw [h0] at hz hk
  have hsub : ∀ q, gAd cs q → A q := by
    intro q hm
    obtain ⟨x, hx, hxe⟩ := List.mem_map.mp hm
    rw [← hxe]
    exact (vD_nd.mp hD0).2 x (List.mem_append_left _ hx)
  obtain ⟨j1, j2⟩ := seg_join (H1 := T'.heap) hP0 hD0 (fun q h1 h2 => by rw [e1]; exact hk q h1 h2) (by rw [e1]; exact hp1) had
  obtain ⟨t2, a1, b1⟩ := kk T'.heap (locs ++ L1) (vP_perm pm'.symm j1) (vD_perm pm'.symm j2)
    ⟨Nat.le_trans hS.1 (by rw [e1]; exact hz), fun q h1 h2 => by rw [e1, hk q (Nat.lt_of_lt_of_le h1 hS.1) (fun z => h2 (hsub q z))]; exact hS.2.1 q h1 h2, fun q hq => by
      rcases List.mem_append.mp hq with h | h
      · exact hS.2.2 q h
      · exact hsub _ (hL q h)⟩ T' rfl X'
  exact ⟨t2, st t2 a1, b1⟩
/-- a call of a writer on an object, over segments -/
theorem g_wrL {ov : Option Value} (hx : p.tables.exec = Jvm.exec) (hb : c.code = cc) (hml : c.maxLocals = nL) (hown : s.vm.findClass own = some m.cls) (hts : ∀ w ∈ Ts, w.before args s = true) (hM : gWr l y wy d G (.ref b :: As) cs cs' ov) (hG : GoodIn Ts (wsV own index C y wy)) (hw : wy = Cond.code y bytes maxL ret :: wy')
    (hd : y.cls = C ∧ y.cls ≠ "java/lang/invoke/MethodHandle" ∧ y.cls ≠ "java/lang/invoke/VarHandle" ∧ (parseMethodDescriptor y.desc).map (fun d => d.parameters.length) = some n) (hR : d + 1 ≤ R.frames ∧ 8 + (maxL + 11) + 40 * d ≤ R.locals) (hK : gK G s) (hP : va_P G.1 vwCl L H) (hD : va_D A L) (hS : va_S A H0 H locs) (pm : L.Perm (cs ++ rs)) (pm' : L'.Perm (cs' ++ rs)) (had : cs'.map Prod.fst = cs.map Prod.fst) {q : vw_C} {ci : Nat} {fs : List Value} (hq : q.1 = C) (hc : vwCl[ci]? = some q) (he : cs[0]? = some (b, .inr (ci, fs)))
    (hn : As.length = n) (hls : ls.size = nL) (hst : st0 = As.reverse ++ .ref b :: rest) (hrm : (rest.map fun v => v.category).sum ≤ 8) (hf : cells ≤ R.cells ∧ slots ≤ R.slots) (hdg : decode cc pc = .ok (.invokevirtual index, 3))
    (kk : ∀ (H1 : Heap) (locs1 : List Loc), va_P G.1 vwCl L' H1 → va_D A L' → va_S A H0 H1 locs1 → W p l e R s m args below meth c H1 locs1 cells slots Q (F0 m (pc + 3) ls (ov.toList ++ rest))) : W p l e R s m args below meth c H locs cells slots Q (F0 m pc ls st0) := by
  subst hq
  have hP0 := vP_perm pm hP
  have hD0 := vD_perm pm hD
  have hPc : va_P G.1 vwCl cs H := vP_left hP0
  have hDc : va_D (fun _ => True) cs := vD_left hD0
  exact g_runL (va_runV (As := As) (rest := rest) (b := b) ⟨hx, hb, hml, hown, hts⟩ hM (cwV n hts hG hw rfl rfl hd hR) ⟨fun a U g mk q => ⟨q.1, q.2.1, q.2.2.1.calling g mk a, q.2.2.2⟩, va_recv hK.1 hPc hc he, fun U hU hW => ⟨rfl, by rw [hU]; exact hPc, hK.warm hW, hDc⟩⟩ rfl hn hls hst (lv_room hrm) hdg hf) hP0 hD0 hS pm' had kk
end SEG
/-! ===== constructors ===== -/
def gKi (G : gG) (U : State) : Prop := gK G U ∧ va_Nw (.methodLinkNest RX0 20 yX2_init RX4) U ∧ va_Nw (.methodLinkNest RX4 11 yX3_init RX4) U ∧ va_Nw (.methodLinkNest RX4 18 yX1_init RX4) U ∧ va_Nw (.methodLinkNest RX4 29 yX2_init RX4) U ∧ va_Nw (.methodLinkNest RX4 40 yX0_init RX4) U ∧ va_AO RX2 U
theorem gKi.calling {G : gG} {U : State} (g : JFrame) (mk : MethodId) (a : Array Value) (h : gKi G U) : gKi G (U.calling g mk a) :=
  ⟨h.1.calling g mk a, va_Nw.same (U := U.calling g mk a) rfl rfl h.2.1, va_Nw.same (U := U.calling g mk a) rfl rfl h.2.2.1, va_Nw.same (U := U.calling g mk a) rfl rfl h.2.2.2.1, va_Nw.same (U := U.calling g mk a) rfl rfl h.2.2.2.2.1, va_Nw.same (U := U.calling g mk a) rfl rfl h.2.2.2.2.2.1, va_AO.moved (u := U) (U := U.calling g mk a) (Vm.Alike.refl U.vm) h.2.2.2.2.2.2⟩
theorem gKi.warm {G : gG} {s U : State} (hW : s.WarmedH U.vm) (h : gKi G s) : gKi G U := ⟨h.1.warm hW, va_Nw.warmM hW h.2.1, va_Nw.warmM hW h.2.2.1, va_Nw.warmM hW h.2.2.2.1, va_Nw.warmM hW h.2.2.2.2.1, va_Nw.warmM hW h.2.2.2.2.2.1, va_AO.moved hW.alike h.2.2.2.2.2.2⟩
abbrev gRi (d mc ms : Nat) : Room := { frames := d, cells := mc, slots := ms, locals := 40 * d }
/-- a constructor: out of one new cell comes the world w u, its own cell the first of it -/
def gIn {S : Type} (l : Launch) (y : MethodName) (ws : List Cond) (d mc ms : Nat) (G : gG) (ci : Nat) (fs : List Value) (w : S → va_W) (at0 : S → Nat) : Prop :=
  ∀ (h0 sz : Nat), Met l y ws (gRi d mc ms) (va_Pc [.ref h0] (fun U => U.heap.size = sz ∧ va_P G.1 vwCl [(h0, .inr (ci, fs))] U.heap ∧ gKi G U ∧ va_D (fun _ => True) [(h0, .inr (ci, fs))])) (va_Qv (fun u : S => at0 u = h0) (fun u t => va_P G.1 vwCl (w u) t.heap ∧ va_D (va_A [(h0, .inr (ci, fs))] sz) (w u)) (va_A [(h0, .inr (ci, fs))] sz)) mc ms (va_A [(h0, .inr (ci, fs))] sz)
theorem g_in {S : Type} {l : Launch} {y : MethodName} {ws ws' : List Cond} {d mc ms : Nat} {G : gG} {ci : Nat} {fs : List Value} {w : S → va_W} {at0 : S → Nat} {cc : ByteArray} {maxL : Nat} (hy : plainName y.cls = true) (hw : ws = Cond.code y cc maxL none :: ws') (hlen : 1 ≤ maxL)
    (body : ∀ (p : Program) (e : Env) (s : State) (m : MethodId) (below : List Frame) (meth : Method) (c : Code) (h0 : Nat), p.tables.exec = Jvm.exec → c.code = cc → meth.sig.returnType = none → c.maxLocals = maxL → s.vm.findClass y.cls = some m.cls → (∀ w ∈ ws, w.before [Value.ref h0].toArray s = true) → meth.locks = false → meth.name = y.name → gKi G s → ∀ A : Nat → Prop, A = va_A [(h0, .inr (ci, fs))] s.heap.size → (∀ q : Nat, s.heap.size ≤ q → A q) → va_P G.1 vwCl [(h0, .inr (ci, fs))] s.heap → va_D A [(h0, .inr (ci, fs))] → va_S A s.heap s.heap [] → ∀ ls : Array Slot, lv_has ls maxL [(0, .ref h0)] →
      W p l e (gRi d mc ms) s m [Value.ref h0].toArray below meth c s.heap [] 0 0 (MQ below (va_Qv (fun u : S => at0 u = h0) (fun u t => va_P G.1 vwCl (w u) t.heap ∧ va_D A (w u)) A) [Value.ref h0].toArray s mc ms A) (F0 m 0 ls [])) : gIn l y ws d mc ms G ci fs w at0 := by
  intro h0 sz
  refine Met.ofW (cc := cc) (maxL := maxL) (ret := none) hy hw ?_
  intro p e s m args below meth c s₁ B hml hv
  obtain ⟨rfl, hsz, hP, hK, hD0⟩ := hv
  subst hsz
  rw [lg_entry_eq]
  exact body p e s m below meth c h0 B.exec B.bytes B.returns hml (findClass_of_methodNamed B.named) (atoms_spec (ws := ws) B.pre) B.notSynchronized (name_of_methodNamed B.named B.method).1 hK _ rfl (fun q h => Or.inr h) hP (hD0.self (sz := s.heap.size)) va_S.rf _ (lv_entry [.ref h0] (Nat.le_trans (Nat.le_of_ble_eq_true rfl) hlen))
section INI
variable {p : Program} {l : Launch} {e : Env} {R : Room} {s : State} {m : MethodId} {args : Array Value} {below : List Frame} {meth : Method} {c : Code} {H : Heap} {locs : List Loc} {cells slots : Nat} {Q : State → Prop}
variable {cc : ByteArray} {pc : Nat} {ls : Array Slot} {rest st0 : List Value} {A : Nat → Prop} {ws : va_W} {H0 : Heap} {G : gG}
theorem g_inret {S : Type} {mc ms h0 : Nat} {w : S → va_W} {at0 : S → Nat} (u : S) (hx : p.tables.exec = Jvm.exec) (hb : c.code = cc) (hr : meth.sig.returnType = none) (hlocks : meth.locks = false) (hu : at0 u = h0) (hP : va_P G.1 vwCl (w u) H) (hD : va_D A (w u)) (hS : va_S A s.heap H locs) (hc : cells ≤ mc) (hs : slots ≤ ms) (hdg : decode cc pc = .ok (.return_, 1)) :
    W p l e R s m args below meth c H locs cells slots (MQ below (va_Qv (fun u : S => at0 u = h0) (fun u t => va_P G.1 vwCl (w u) t.heap ∧ va_D A (w u)) A) args s mc ms A) (F0 m pc ls []) := by
  refine W.widen (k := mc) (n := ms) hc hs ?_
  exact W.vret hx hb hr (fun t ht hW => ⟨⟨u, rfl, hu, by rw [ht]; exact hP, hD⟩, hS.F ht⟩) hS.2.2 hdg hlocks
theorem g_newI (hx : p.tables.exec = Jvm.exec) (hb : c.code = cc) (harr : (Cond.arrayClass .int).before args s = true) (hK : gK G s) (hP : va_P G.1 vwCl ws H) (hD : va_D A ws) (hS : va_S A H0 H locs) (hA : ∀ q, H0.size ≤ q → A q) {n : Int32} {N : Nat} (hn : ¬ n < 0) (hN : n.toNatClampNeg = N) (hby : N * componentBytes .int ≤ 536870912) (hcells : cells + 1 ≤ R.cells) (hslots : slots + N ≤ R.slots) (hdg : decode cc pc = .ok (.newarray .int, 2))
    (kk : ∀ (q : Nat) (H1 : Heap), va_P G.1 vwCl (ws ++ [(q, .inl (G.2.1, N, .inl (fun _ => 0)))]) H1 → va_D A (ws ++ [(q, .inl (G.2.1, N, .inl (fun _ => 0)))]) → va_S A H0 H1 locs → W p l e R s m args below meth c H1 locs (cells + 1) (slots + N) Q (F0 m (pc + 2) ls (.ref q :: rest))) : W p l e R s m args below meth c H locs cells slots Q (F0 m pc ls (.int n :: rest)) := by
  refine va_newa (atype := .int) (ty := .int) (a0 := (N, .inl (fun _ => 0))) hx hb harr rfl hK.1 hP hD hS hA (fun cA => rfl) hn hN hby hcells hslots hdg (fun q cA H1 hK1 hP1 hD1 hS1 => ?_)
  have h1 : s.vm.findClass ("[" ++ FieldType.int.toString) = some cA := (hK1.2 3 (cA, .int) rfl).2
  have h2 : s.vm.findClass ("[" ++ FieldType.int.toString) = some G.2.1 := (hK.1.2 0 (G.2.1, .int) rfl).2
  have e : cA = G.2.1 := Option.some.inj (h1.symm.trans h2)
  subst e
  exact kk q H1 hP1 hD1 hS1
theorem g_newZ (hx : p.tables.exec = Jvm.exec) (hb : c.code = cc) (harr : (Cond.arrayClass .boolean).before args s = true) (hK : gK G s) (hP : va_P G.1 vwCl ws H) (hD : va_D A ws) (hS : va_S A H0 H locs) (hA : ∀ q, H0.size ≤ q → A q) {n : Int32} {N : Nat} (hn : ¬ n < 0) (hN : n.toNatClampNeg = N) (hby : N * componentBytes .boolean ≤ 536870912) (hcells : cells + 1 ≤ R.cells) (hslots : slots + N ≤ R.slots) (hdg : decode cc pc = .ok (.newarray .boolean, 2))
    (kk : ∀ (q : Nat) (H1 : Heap), va_P G.1 vwCl (ws ++ [(q, .inl (G.2.2.1, N, .inl (fun _ => 0)))]) H1 → va_D A (ws ++ [(q, .inl (G.2.2.1, N, .inl (fun _ => 0)))]) → va_S A H0 H1 locs → W p l e R s m args below meth c H1 locs (cells + 1) (slots + N) Q (F0 m (pc + 2) ls (.ref q :: rest))) : W p l e R s m args below meth c H locs cells slots Q (F0 m pc ls (.int n :: rest)) := by
  refine va_newa (atype := .boolean) (ty := .boolean) (a0 := (N, .inl (fun _ => 0))) hx hb harr rfl hK.1 hP hD hS hA (fun cA => rfl) hn hN hby hcells hslots hdg (fun q cA H1 hK1 hP1 hD1 hS1 => ?_)
  have h1 : s.vm.findClass ("[" ++ FieldType.boolean.toString) = some cA := (hK1.2 3 (cA, .boolean) rfl).2
  have h2 : s.vm.findClass ("[" ++ FieldType.boolean.toString) = some G.2.2.1 := (hK.1.2 1 (G.2.2.1, .boolean) rfl).2
  have e : cA = G.2.2.1 := Option.some.inj (h1.symm.trans h2)
  subst e
  exact kk q H1 hP1 hD1 hS1
theorem g_newM (hx : p.tables.exec = Jvm.exec) (hb : c.code = cc) {own : String} {index : Nat} (hown : s.vm.findClass own = some m.cls) (hcl : (Cond.classLink own index RX2).before args s = true) (hK : gKi G s) (hP : va_P G.1 vwCl ws H) (hD : va_D A ws) (hS : va_S A H0 H locs) (hA : ∀ q, H0.size ≤ q → A q) {n : Int32} {N : Nat} (hn : ¬ n < 0) (hN : n.toNatClampNeg = N) (hby : N * 4 ≤ 536870912) (hcells : cells + 1 ≤ R.cells) (hslots : slots + N ≤ R.slots) (hdg : decode cc pc = .ok (.anewarray index, 3))
    (kk : ∀ (q : Nat) (H1 : Heap), va_P G.1 vwCl (ws ++ [(q, .inl (G.2.2.2, N, .inr (.inr (.inr (.inr (fun _ => none))))))]) H1 → va_D A (ws ++ [(q, .inl (G.2.2.2, N, .inr (.inr (.inr (.inr (fun _ => none))))))]) → va_S A H0 H1 locs → W p l e R s m args below meth c H1 locs (cells + 1) (slots + N) Q (F0 m (pc + 3) ls (.ref q :: rest))) : W p l e R s m args below meth c H locs cells slots Q (F0 m pc ls (.int n :: rest)) := by
  refine va_newq (C := RX2) hx hb hown hcl hK.2.2.2.2.2.2 hK.1.1 hP hD hS hA hn hN hby hcells hslots hdg (fun q cA H1 hK1 hP1 hD1 hS1 => ?_)
  obtain ⟨-, -, -, -, -, h1⟩ := (hK1.2 3 (cA, .object RX2) rfl).2
  obtain ⟨-, -, -, -, -, h2⟩ := (hK.1.1.2 2 (G.2.2.2, .object RX2) rfl).2
  have e : cA = G.2.2.2 := Option.some.inj (h1.symm.trans h2)
  subst e
  exact kk q H1 hP1 hD1 hS1
variable {y : MethodName} {bytes : ByteArray} {maxL nL index d mc ms ci q0 : Nat} {Ts wy wy' : List Cond} {own host : String} {fs : List Value}
/-- behind a run of a constructor on the newest cell -/
theorem g_mkrun {S : Type} {w : S → va_W} {at0 : S → Nat} {av : Array Value} (hr : va_Run p l e R s m args below meth c H locs cells slots mc ms (F0 m pc ls st0) rest (va_Qv (fun u : S => at0 u = q0) (fun u t => va_P G.1 vwCl (w u) t.heap ∧ va_D (va_A [(q0, .inr (ci, fs))] H.size) (w u)) (va_A [(q0, .inr (ci, fs))] H.size) av) (va_A [(q0, .inr (ci, fs))] H.size)) (hP : va_P G.1 vwCl (ws ++ [(q0, .inr (ci, fs))]) H) (hD : va_D A (ws ++ [(q0, .inr (ci, fs))])) (hS : va_S A H0 H locs) (hA : ∀ q, H0.size ≤ q → A q)
    (kk : ∀ (u : S) (H1 : Heap) (locs1 : List Loc), at0 u = q0 → va_P G.1 vwCl (ws ++ w u) H1 → va_D A (ws ++ w u) → va_S A H0 H1 locs1 → W p l e R s m args below meth c H1 locs1 (cells + mc) (slots + ms) Q (F0 m (pc + 3) ls rest)) : W p l e R s m args below meth c H locs cells slots Q (F0 m pc ls st0) := by
  have hAq : A q0 := (vD_nd.mp hD).2 _ (List.mem_append_right _ List.mem_cons_self)
  have hA1 : ∀ q, va_A [(q0, .inr (ci, fs))] H.size q → q = q0 ∨ H.size ≤ q := by
    intro q hq
    rcases hq with ⟨k, e, hk⟩ | h
    · have := List.mem_of_getElem? hk
      rw [List.mem_singleton] at this
      exact Or.inl (congrArg Prod.fst this)
    · exact Or.inr h
  have hAA : ∀ q, va_A [(q0, .inr (ci, fs))] H.size q → A q := by
    intro q hq
    rcases hA1 q hq with g | g
    · rw [g]; exact hAq
    · exact hA q (Nat.le_trans hS.1 g)
  refine va_callv hr hS (fun q _ h => hAA q h) (fun q h => hAA q h) (fun u t H1 locs1 ht hvm hu hB hz1 hk1 hS1 => ?_)
  obtain ⟨hP1, hD1⟩ := hB
  rw [ht] at hP1
  have hne : ∀ x ∈ ws, x.1 < H.size ∧ x.1 ≠ q0 := fun x hx => ⟨(vP_mem.mp hP x (List.mem_append_left _ hx)).lt, (List.pairwise_append.mp (vD_nd.mp hD).1).2.2 x hx _ List.mem_cons_self⟩
  refine kk u H1 locs1 hu (vP_mem.mpr (fun x hx => ?_)) (vD_nd.mpr ⟨List.pairwise_append.mpr ⟨(List.pairwise_append.mp (vD_nd.mp hD).1).1, (vD_nd.mp hD1).1, fun x hx z hz e => ?_⟩, fun x hx => ?_⟩) hS1
  · rcases List.mem_append.mp hx with g | g
    · have ha := vP_mem.mp hP x (List.mem_append_left _ g)
      refine ha.kept (hk1 x.1 ha.lt (fun hm => ?_))
      rcases hA1 _ hm with j | j
      · exact (hne x g).2 j
      · exact absurd (hne x g).1 (by omega)
    · exact vP_mem.mp hP1 x g
  · rcases hA1 _ ((vD_nd.mp hD1).2 z hz) with j | j
    · exact (hne x hx).2 (e.trans j)
    · have := (hne x hx).1
      omega
  · rcases List.mem_append.mp hx with g | g
    · exact (vD_nd.mp hD).2 x (List.mem_append_left _ g)
    · exact hAA _ ((vD_nd.mp hD1).2 x g)
/-- a nest mate's constructor -/
theorem g_mkN {S : Type} {w : S → va_W} {at0 : S → Nat} (hx : p.tables.exec = Jvm.exec) (hb : c.code = cc) (hml : c.maxLocals = nL) (hown : s.vm.findClass own = some m.cls) (hts : ∀ w ∈ Ts, w.before args s = true) (hM : gIn l y wy d mc ms G ci fs w at0) (hG : GoodIn Ts wy) (hw : wy = Cond.code y bytes maxL none :: wy') (hyn : y.name = "<init>") (hl : va_Nw (.methodLinkNest own index y host) s) (hini : (Cond.initialized y.cls).before args s = true) (hins : (Cond.instanceMethod y).before args s = true)
    (hd : y.cls ≠ "java/lang/invoke/MethodHandle" ∧ y.cls ≠ "java/lang/invoke/VarHandle" ∧ (parseMethodDescriptor y.desc).map (fun d => d.parameters.length) = some 0) (hR : d + 1 ≤ R.frames ∧ 8 + (maxL + 11) + 40 * d ≤ R.locals) (hK : gKi G s) (hP : va_P G.1 vwCl (ws ++ [(q0, .inr (ci, fs))]) H) (hD : va_D A (ws ++ [(q0, .inr (ci, fs))])) (hS : va_S A H0 H locs) (hA : ∀ q, H0.size ≤ q → A q)
    (hls : ls.size = nL) (hrm : (rest.map fun v => v.category).sum ≤ 8) (hf : cells + mc ≤ R.cells ∧ slots + ms ≤ R.slots) (hdg : decode cc pc = .ok (.invokespecial index, 3))
    (kk : ∀ (u : S) (H1 : Heap) (locs1 : List Loc), at0 u = q0 → va_P G.1 vwCl (ws ++ w u) H1 → va_D A (ws ++ w u) → va_S A H0 H1 locs1 → W p l e R s m args below meth c H1 locs1 (cells + mc) (slots + ms) Q (F0 m (pc + 3) ls rest)) : W p l e R s m args below meth c H locs cells slots Q (F0 m pc ls (.ref q0 :: rest)) := by
  have hPc : va_P G.1 vwCl [(q0, .inr (ci, fs))] H := vP_mem.mpr (fun x hx => vP_mem.mp hP x (List.mem_append_right _ hx))
  have hDc : va_D (fun _ => True) [(q0, .inr (ci, fs))] := vD_nd.mpr ⟨List.pairwise_singleton _ _, fun _ _ => trivial⟩
  exact g_mkrun (va_runIN (As := []) (rest := rest) (b := q0) (g := F0 m pc ls (.ref q0 :: rest)) ⟨hx, hb, hml, hown, hts⟩ (hM q0 H.size) ⟨va_cnB 0 hts hG hw rfl rfl hl hini hd hR, hyn, hins⟩ ⟨fun a U g mk q => ⟨q.1, q.2.1, q.2.2.1, q.2.2.2.1.calling g mk a, q.2.2.2.2⟩, fun U hU hW => ⟨rfl, by rw [hU], by rw [hU]; exact hPc, hK.warm hW, hDc⟩⟩ rfl rfl hls rfl (lv_room hrm) hdg hf) hP hD hS hA kk
/-- a constructor of another class -/
theorem g_mkI {S : Type} {w : S → va_W} {at0 : S → Nat} (hx : p.tables.exec = Jvm.exec) (hb : c.code = cc) (hml : c.maxLocals = nL) (hown : s.vm.findClass own = some m.cls) (hts : ∀ w ∈ Ts, w.before args s = true) (hM : gIn l y wy d mc ms G ci fs w at0) (hG : GoodIn Ts wy) (hw : wy = Cond.code y bytes maxL none :: wy') (hyn : y.name = "<init>") (hl : (Cond.methodLink own index y).before args s = true) (hini : (Cond.initialized y.cls).before args s = true) (hins : (Cond.instanceMethod y).before args s = true)
    (hd : y.cls ≠ "java/lang/invoke/MethodHandle" ∧ y.cls ≠ "java/lang/invoke/VarHandle" ∧ (parseMethodDescriptor y.desc).map (fun d => d.parameters.length) = some 0) (hR : d + 1 ≤ R.frames ∧ 8 + (maxL + 11) + 40 * d ≤ R.locals) (hK : gKi G s) (hP : va_P G.1 vwCl (ws ++ [(q0, .inr (ci, fs))]) H) (hD : va_D A (ws ++ [(q0, .inr (ci, fs))])) (hS : va_S A H0 H locs) (hA : ∀ q, H0.size ≤ q → A q)
    (hls : ls.size = nL) (hrm : (rest.map fun v => v.category).sum ≤ 8) (hf : cells + mc ≤ R.cells ∧ slots + ms ≤ R.slots) (hdg : decode cc pc = .ok (.invokespecial index, 3))
    (kk : ∀ (u : S) (H1 : Heap) (locs1 : List Loc), at0 u = q0 → va_P G.1 vwCl (ws ++ w u) H1 → va_D A (ws ++ w u) → va_S A H0 H1 locs1 → W p l e R s m args below meth c H1 locs1 (cells + mc) (slots + ms) Q (F0 m (pc + 3) ls rest)) : W p l e R s m args below meth c H locs cells slots Q (F0 m pc ls (.ref q0 :: rest)) := by
  have hPc : va_P G.1 vwCl [(q0, .inr (ci, fs))] H := vP_mem.mpr (fun x hx => vP_mem.mp hP x (List.mem_append_right _ hx))
  have hDc : va_D (fun _ => True) [(q0, .inr (ci, fs))] := vD_nd.mpr ⟨List.pairwise_singleton _ _, fun _ _ => trivial⟩
  exact g_mkrun (va_runI (As := []) (rest := rest) (b := q0) (g := F0 m pc ls (.ref q0 :: rest)) ⟨hx, hb, hml, hown, hts⟩ (hM q0 H.size) (cwI 0 hts hG hw rfl rfl hini hl hins hyn hd hR) ⟨fun a U g mk q => ⟨q.1, q.2.1, q.2.2.1, q.2.2.2.1.calling g mk a, q.2.2.2.2⟩, fun U hU hW => ⟨rfl, by rw [hU], by rw [hU]; exact hPc, hK.warm hW, hDc⟩⟩ rfl rfl hls rfl (lv_room hrm) hdg hf) hP hD hS hA kk
end INI
