/-! the classes' array types, a contract's start, a world; what a contract is; calls; returns; numbers -/
abbrev ty3 (cI cZ cM : ClassId) : List (ClassId × FieldType) := [(cI, .int), (cZ, .boolean), (cM, .object RX1)]
def Pre (D : va_G) (cI cZ cM : ClassId) (WS : va_W) (sz : Nat) (U : State) : Prop := U.heap.size = sz ∧ va_P D vwCl WS U.heap ∧ va_K D vwCl (ty3 cI cZ cM) U ∧ va_D (fun _ => True) WS
def Wd (D : va_G) (cI cZ cM : ClassId) (A : Nat → Prop) (WS : va_W) (t : State) : Prop := va_P D vwCl WS t.heap ∧ va_K D vwCl (ty3 cI cZ cM) t ∧ va_D A WS
theorem pre_blind {D : va_G} {cI cZ cM : ClassId} {WS : va_W} {sz : Nat} {av : List Value} : FrameBlind (va_Pc av (Pre D cI cZ cM WS sz)) := fun a U g mk q => by
  obtain ⟨q0, q1, qP, qK, qD⟩ := q
  exact ⟨q0, q1, qP, va_K.moved (u := U) (U := U.calling g mk a) (Vm.Alike.refl U.vm) qK, qD⟩
/-- contracts: an int, a long, nothing -/
abbrev Ci {S : Type} (l : Launch) (y : MethodName) (ws : List Cond) (rm : Room) (D : va_G) (cI cZ cM : ClassId) (av : List Value) (WS : va_W) (sz : Nat) (post : Int32 → S → Prop) (W1 : S → va_W) (mc ms : Nat) : Prop :=
  Met l y ws rm (va_Pc av (Pre D cI cZ cM WS sz)) (va_Qi post (fun u => Wd D cI cZ cM (va_A WS sz) (W1 u)) (va_A WS sz)) mc ms (va_A WS sz)
abbrev Cl {S : Type} (l : Launch) (y : MethodName) (ws : List Cond) (rm : Room) (D : va_G) (cI cZ cM : ClassId) (av : List Value) (WS : va_W) (sz : Nat) (post : Int64 → S → Prop) (W1 : S → va_W) (mc ms : Nat) : Prop :=
  Met l y ws rm (va_Pc av (Pre D cI cZ cM WS sz)) (va_Ql post (fun u => Wd D cI cZ cM (va_A WS sz) (W1 u)) (va_A WS sz)) mc ms (va_A WS sz)
abbrev Cv {S : Type} (l : Launch) (y : MethodName) (ws : List Cond) (rm : Room) (D : va_G) (cI cZ cM : ClassId) (av : List Value) (WS : va_W) (sz : Nat) (post : S → Prop) (W1 : S → va_W) (mc ms : Nat) : Prop :=
  Met l y ws rm (va_Pc av (Pre D cI cZ cM WS sz)) (va_Qv post (fun u => Wd D cI cZ cM (va_A WS sz) (W1 u)) (va_A WS sz)) mc ms (va_A WS sz)
/-- what a method's body begins with -/
def Bd (p : Program) (s : State) (m : MethodId) (args : Array Value) (meth : Method) (c : Code) (y : MethodName) (ws : List Cond) (cc : ByteArray) (maxL : Nat) (ret : Option FieldType) : Prop :=
  p.tables.exec = Jvm.exec ∧ c.code = cc ∧ meth.sig.returnType = ret ∧ (∀ w ∈ ws, w.before args s = true) ∧ s.vm.findClass y.cls = some m.cls ∧ meth.locks = false ∧ meth.name = y.name ∧ c.maxLocals = maxL
theorem begins {l : Launch} {y : MethodName} {ws ws' : List Cond} {rm : Room} {D : va_G} {cI cZ cM : ClassId} {av : List Value} {WS : va_W} {sz mc ms : Nat} {Qc : (Nat → Prop) → Array Value → State → Outcome → State → Prop} (cc : ByteArray) (maxL : Nat) (ret : Option FieldType)
    (hy : plainName y.cls = true) (hw : ws = Cond.code y cc maxL ret :: ws') (hlen : (lg_sl av).length ≤ maxL)
    (body : ∀ (p : Program) (e : Env) (s : State) (m : MethodId) (args : Array Value) (below : List Frame) (meth : Method) (c : Code) (R : Room) (Q : State → Prop) (A : Nat → Prop) (ls : Array Slot), Bd p s m args meth c y ws cc maxL ret → R = rm → Q = MQ below (Qc A) args s mc ms A →
      (∀ q : Nat, s.heap.size ≤ q → A q) → va_S A s.heap s.heap [] → va_K D vwCl (ty3 cI cZ cM) s → va_P D vwCl WS s.heap → va_D A WS → lv_has ls maxL (lv_args 0 av) →
      W p l e R s m args below meth c s.heap [] 0 0 Q (F0 m 0 ls [])) : Met l y ws rm (va_Pc av (Pre D cI cZ cM WS sz)) (Qc (va_A WS sz)) mc ms (va_A WS sz) := by
  refine Met.ofW (cc := cc) (maxL := maxL) (ret := ret) hy hw ?_
  intro p e s m args below meth c s₁ B hml hv
  obtain ⟨rfl, hsz, hP, hK, hD0⟩ := hv
  subst hsz
  rw [lg_entry_eq]
  exact body p e s m _ below meth c _ _ _ _ ⟨B.exec, B.bytes, B.returns, atoms_spec (ws := ws) B.pre, findClass_of_methodNamed B.named, B.notSynchronized, (name_of_methodNamed B.named B.method).1, hml⟩ rfl rfl (fun q h => Or.inr h) va_S.rf hK hP (hD0.self (sz := s.heap.size)) (lv_entry av hlen)
section RT
variable {p : Program} {l : Launch} {e : Env} {R : Room} {s : State} {m : MethodId} {args : Array Value} {below : List Frame} {meth : Method} {c : Code} {H : Heap} {locs : List Loc} {cells slots mc ms : Nat} {Q : State → Prop} {cc : ByteArray} {pc : Nat} {ls : Array Slot} {D : va_G} {cI cZ cM : ClassId} {A : Nat → Prop} {S : Type} {W1 : S → va_W}
theorem ret_i {post : Int32 → S → Prop} (u : S) {v : Int32} {ty : FieldType} (hx : p.tables.exec = Jvm.exec) (hb : c.code = cc) (hr : meth.sig.returnType = some ty) (hlocks : meth.locks = false) (hn : narrow ty (.int v) = .int v) (hQ : Q = MQ below (va_Qi post (fun u => Wd D cI cZ cM A (W1 u)) A) args s mc ms A) (hK : va_K D vwCl (ty3 cI cZ cM) s) (hP : va_P D vwCl (W1 u) H) (hD : va_D A (W1 u)) (hS : va_S A s.heap H locs) (hm : cells ≤ mc ∧ slots ≤ ms) (hdg : decode cc pc = .ok (.ireturn, 1)) (hp : post v u) : W p l e R s m args below meth c H locs cells slots Q (F0 m pc ls [.int v]) := by
  subst hQ
  refine W.widen hm.1 hm.2 ?_
  exact W.zret hx hb hr hn (fun t ht hW => ⟨⟨v, u, rfl, hp, by rw [ht]; exact hP, va_K.moved hW.alike hK, hD⟩, hS.F ht⟩) hS.2.2 hdg hlocks
theorem ret_l {post : Int64 → S → Prop} (u : S) {v : Int64} (hx : p.tables.exec = Jvm.exec) (hb : c.code = cc) (hr : meth.sig.returnType = some .long) (hlocks : meth.locks = false) (hQ : Q = MQ below (va_Ql post (fun u => Wd D cI cZ cM A (W1 u)) A) args s mc ms A) (hK : va_K D vwCl (ty3 cI cZ cM) s) (hP : va_P D vwCl (W1 u) H) (hD : va_D A (W1 u)) (hS : va_S A s.heap H locs) (hm : cells ≤ mc ∧ slots ≤ ms) (hdg : decode cc pc = .ok (.lreturn, 1)) (hp : post v u) : W p l e R s m args below meth c H locs cells slots Q (F0 m pc ls [.long v]) := by
  subst hQ
  refine W.widen hm.1 hm.2 ?_
  exact W.lret hx hb hr (fun t ht hW => ⟨⟨v, u, rfl, hp, by rw [ht]; exact hP, va_K.moved hW.alike hK, hD⟩, hS.F ht⟩) hS.2.2 hdg hlocks
theorem ret_v {post : S → Prop} (u : S) (hx : p.tables.exec = Jvm.exec) (hb : c.code = cc) (hr : meth.sig.returnType = none) (hlocks : meth.locks = false) (hQ : Q = MQ below (va_Qv post (fun u => Wd D cI cZ cM A (W1 u)) A) args s mc ms A) (hK : va_K D vwCl (ty3 cI cZ cM) s) (hP : va_P D vwCl (W1 u) H) (hD : va_D A (W1 u)) (hS : va_S A s.heap H locs) (hm : cells ≤ mc ∧ slots ≤ ms) (hdg : decode cc pc = .ok (.return_, 1)) (hp : post u) : W p l e R s m args below meth c H locs cells slots Q (F0 m pc ls []) := by
  subst hQ
  refine W.widen hm.1 hm.2 ?_
  exact W.vret hx hb hr (fun t ht hW => ⟨⟨u, rfl, hp, by rw [ht]; exact hP, va_K.moved hW.alike hK, hD⟩, hS.F ht⟩) hS.2.2 hdg hlocks
end RT
section CL
variable {p : Program} {l : Launch} {e : Env} {R : Room} {s : State} {m : MethodId} {args : Array Value} {below : List Frame} {meth : Method} {c : Code} {H : Heap} {locs : List Loc} {cells slots mc ms : Nat} {Q : State → Prop} {cc : ByteArray} {pc : Nat} {ls : Array Slot} {D : va_G} {cI cZ cM : ClassId} {A : Nat → Prop} {S : Type} {W1 : S → va_W}
variable {y : MethodName} {bytes : ByteArray} {maxL nL n index ci : Nat} {ret : Option FieldType} {ws Ts : List Cond} {rm : Room} {own C host : String} {b : Addr} {rest st : List Value} {WC ws0 : va_W} {T : u_T} {N : Nat} {fs : List Value}
abbrev pickW (ws : va_W) (is : List Nat) : va_W := is.filterMap (fun i => ws[i]?)
theorem pick_map {ws : va_W} : ∀ {is : List Nat}, (∀ i ∈ is, i < ws.length) → is.map (fun i => ws[i]?) = (pickW ws is).map some := by
  intro is
  induction is with
  | nil => intro _; rfl
  | cons a is ih =>
    intro h
    have ha : a < ws.length := h a List.mem_cons_self
    have hs : ws[a]? = some ws[a] := List.getElem?_eq_getElem ha
    rw [List.map_cons, ih (fun i hi => h i (List.mem_cons_of_mem _ hi))]
    show _ = ((a :: is).filterMap (fun i => ws[i]?)).map some
    rw [List.filterMap_cons, hs]
    rfl
theorem joinC (hP : va_P D vwCl ws0 H) (hD : va_D A ws0) (hS : va_S A s.heap H locs) (hA : ∀ q : Nat, s.heap.size ≤ q → A q) (isC isR : List Nat) (hC : isC.map (fun i => ws0[i]?) = WC.map some) (hR : isR.all (fun i => Nat.blt i ws0.length) = true) (hn2 : va_nd isR = true) (hdis : ∀ i ∈ isR, i ∉ isC) {H1 : Heap} {w1 : va_W}
    (hk : ∀ q : Nat, q < H.size → ¬ va_A WC H.size q → H1[q]? = H[q]?) (hP1 : va_P D vwCl w1 H1) (hD1 : va_D (va_A WC H.size) w1) : va_P D vwCl (pickW ws0 isR ++ w1) H1 ∧ va_D A (pickW ws0 isR ++ w1) :=
  va_join hP hD isC isR hC (pick_map (fun i hi => Nat.le_of_ble_eq_true (List.all_eq_true.mp hR i hi))) hn2 hdis hk (va_free hD hS hA isC hC) hP1 hD1
theorem preC (hK : va_K D vwCl (ty3 cI cZ cM) s) (hP : va_P D vwCl ws0 H) (hD : va_D A ws0) (isC : List Nat) (hC : isC.map (fun i => ws0[i]?) = WC.map some) (hn1 : va_nd isC = true) {av : List Value} : ∀ U : State, U.heap = H → s.WarmedH U.vm → va_Pc av (Pre D cI cZ cM WC H.size) av.toArray U := by
  intro U hU hW
  have e : isC.filterMap (fun i => ws0[i]?) = WC := by
    have h := congrArg (fun z : List (Option (Nat × va_E)) => z.filterMap id) hC
    simpa [List.filterMap_map] using h
  exact ⟨rfl, by rw [hU], by rw [hU]; exact hP.sub isC e, va_K.moved hW.alike hK, (hD.sub isC hn1 hC).weaken (fun _ _ _ _ => trivial)⟩
theorem cV_i {post : Int32 → S → Prop} {As : List Value} (F : CallFix p m c cc nL s args Ts own) (hM : Ci l y ws rm D cI cZ cM (.ref b :: As) WC H.size post W1 mc ms) (cw : CallW R s args own C index y bytes maxL ret ws rm mc ms n)
    (hK : va_K D vwCl (ty3 cI cZ cM) s) (hP : va_P D vwCl ws0 H) (hD : va_D A ws0) (hS : va_S A s.heap H locs) (hA : ∀ q : Nat, s.heap.size ≤ q → A q) (isC isR : List Nat) (hC : isC.map (fun i => ws0[i]?) = WC.map some) (hRl : isR.all (fun i => Nat.blt i ws0.length) = true) (hn1 : va_nd isC = true) (hn2 : va_nd isR = true) (hdis : ∀ i ∈ isR, i ∉ isC)
    (hci : vwCl[ci]? = some (C, T, N)) (q0 : Nat) (hrec : ws0[q0]? = some (b, .inr (ci, fs))) (hl : ls.size = nL) (hn : As.length = n) (hst : st = As.reverse ++ .ref b :: rest) (hW : (rest.map fun v => v.category).sum ≤ 8) (hdg : decode cc pc = .ok (.invokevirtual index, 3)) (hf : cells + mc ≤ R.cells ∧ slots + ms ≤ R.slots)
    (kk : ∀ (r : Int32) (u : S) (H1 : Heap) (locs1 : List Loc), post r u → va_P D vwCl (pickW ws0 isR ++ W1 u) H1 → va_D A (pickW ws0 isR ++ W1 u) → va_S A s.heap H1 locs1 → W p l e R s m args below meth c H1 locs1 (cells + mc) (slots + ms) Q (F0 m (pc + 3) ls (.int r :: rest))) : W p l e R s m args below meth c H locs cells slots Q (F0 m pc ls st) := by
  subst hst
  have hF := va_free hD hS hA isC hC
  refine va_calli (va_runV (As := As) (rest := rest) F hM cw ⟨pre_blind, va_recv hK hP hci hrec, preC hK hP hD isC hC hn1⟩ rfl hn hl rfl (lv_room hW) hdg hf) hS (fun q _ h => hF q h) hF (fun r u t H1 locs1 ht hvm hw hB hz1 hk1 hS1 => ?_)
  obtain ⟨hP1, hK1, hD1⟩ := hB
  rw [ht] at hP1
  obtain ⟨hP2, hD2⟩ := joinC hP hD hS hA isC isR hC hRl hn2 hdis hk1 hP1 hD1
  exact kk r u H1 locs1 hw hP2 hD2 hS1
theorem cV_l {post : Int64 → S → Prop} {As : List Value} (F : CallFix p m c cc nL s args Ts own) (hM : Cl l y ws rm D cI cZ cM (.ref b :: As) WC H.size post W1 mc ms) (cw : CallW R s args own C index y bytes maxL ret ws rm mc ms n)
    (hK : va_K D vwCl (ty3 cI cZ cM) s) (hP : va_P D vwCl ws0 H) (hD : va_D A ws0) (hS : va_S A s.heap H locs) (hA : ∀ q : Nat, s.heap.size ≤ q → A q) (isC isR : List Nat) (hC : isC.map (fun i => ws0[i]?) = WC.map some) (hRl : isR.all (fun i => Nat.blt i ws0.length) = true) (hn1 : va_nd isC = true) (hn2 : va_nd isR = true) (hdis : ∀ i ∈ isR, i ∉ isC)
    (hci : vwCl[ci]? = some (C, T, N)) (q0 : Nat) (hrec : ws0[q0]? = some (b, .inr (ci, fs))) (hl : ls.size = nL) (hn : As.length = n) (hst : st = As.reverse ++ .ref b :: rest) (hW : (rest.map fun v => v.category).sum ≤ 8) (hdg : decode cc pc = .ok (.invokevirtual index, 3)) (hf : cells + mc ≤ R.cells ∧ slots + ms ≤ R.slots)
    (kk : ∀ (r : Int64) (u : S) (H1 : Heap) (locs1 : List Loc), post r u → va_P D vwCl (pickW ws0 isR ++ W1 u) H1 → va_D A (pickW ws0 isR ++ W1 u) → va_S A s.heap H1 locs1 → W p l e R s m args below meth c H1 locs1 (cells + mc) (slots + ms) Q (F0 m (pc + 3) ls (.long r :: rest))) : W p l e R s m args below meth c H locs cells slots Q (F0 m pc ls st) := by
  subst hst
  have hF := va_free hD hS hA isC hC
  refine va_calll (va_runV (As := As) (rest := rest) F hM cw ⟨pre_blind, va_recv hK hP hci hrec, preC hK hP hD isC hC hn1⟩ rfl hn hl rfl (lv_room hW) hdg hf) hS (fun q _ h => hF q h) hF (fun r u t H1 locs1 ht hvm hw hB hz1 hk1 hS1 => ?_)
  obtain ⟨hP1, hK1, hD1⟩ := hB
  rw [ht] at hP1
  obtain ⟨hP2, hD2⟩ := joinC hP hD hS hA isC isR hC hRl hn2 hdis hk1 hP1 hD1
  exact kk r u H1 locs1 hw hP2 hD2 hS1
theorem cV_v {post : S → Prop} {As : List Value} (F : CallFix p m c cc nL s args Ts own) (hM : Cv l y ws rm D cI cZ cM (.ref b :: As) WC H.size post W1 mc ms) (cw : CallW R s args own C index y bytes maxL ret ws rm mc ms n)
    (hK : va_K D vwCl (ty3 cI cZ cM) s) (hP : va_P D vwCl ws0 H) (hD : va_D A ws0) (hS : va_S A s.heap H locs) (hA : ∀ q : Nat, s.heap.size ≤ q → A q) (isC isR : List Nat) (hC : isC.map (fun i => ws0[i]?) = WC.map some) (hRl : isR.all (fun i => Nat.blt i ws0.length) = true) (hn1 : va_nd isC = true) (hn2 : va_nd isR = true) (hdis : ∀ i ∈ isR, i ∉ isC)
    (hci : vwCl[ci]? = some (C, T, N)) (q0 : Nat) (hrec : ws0[q0]? = some (b, .inr (ci, fs))) (hl : ls.size = nL) (hn : As.length = n) (hst : st = As.reverse ++ .ref b :: rest) (hW : (rest.map fun v => v.category).sum ≤ 8) (hdg : decode cc pc = .ok (.invokevirtual index, 3)) (hf : cells + mc ≤ R.cells ∧ slots + ms ≤ R.slots)
    (kk : ∀ (u : S) (H1 : Heap) (locs1 : List Loc), post u → va_P D vwCl (pickW ws0 isR ++ W1 u) H1 → va_D A (pickW ws0 isR ++ W1 u) → va_S A s.heap H1 locs1 → W p l e R s m args below meth c H1 locs1 (cells + mc) (slots + ms) Q (F0 m (pc + 3) ls rest)) : W p l e R s m args below meth c H locs cells slots Q (F0 m pc ls st) := by
  subst hst
  have hF := va_free hD hS hA isC hC
  refine va_callv (va_runV (As := As) (rest := rest) F hM cw ⟨pre_blind, va_recv hK hP hci hrec, preC hK hP hD isC hC hn1⟩ rfl hn hl rfl (lv_room hW) hdg hf) hS (fun q _ h => hF q h) hF (fun u t H1 locs1 ht hvm hw hB hz1 hk1 hS1 => ?_)
  obtain ⟨hP1, hK1, hD1⟩ := hB
  rw [ht] at hP1
  obtain ⟨hP2, hD2⟩ := joinC hP hD hS hA isC isR hC hRl hn2 hdis hk1 hP1 hD1
  exact kk u H1 locs1 hw hP2 hD2 hS1
theorem cS_i {post : Int32 → S → Prop} {As : List Value} (F : CallFix p m c cc nL s args Ts own) (hM : Ci l y ws rm D cI cZ cM As WC H.size post W1 mc ms) (cw : CallB R s args own index y bytes maxL ret ws rm mc ms n ∧ (Cond.static y).before args s = true)
    (hK : va_K D vwCl (ty3 cI cZ cM) s) (hP : va_P D vwCl ws0 H) (hD : va_D A ws0) (hS : va_S A s.heap H locs) (hA : ∀ q : Nat, s.heap.size ≤ q → A q) (isC isR : List Nat) (hC : isC.map (fun i => ws0[i]?) = WC.map some) (hRl : isR.all (fun i => Nat.blt i ws0.length) = true) (hn1 : va_nd isC = true) (hn2 : va_nd isR = true) (hdis : ∀ i ∈ isR, i ∉ isC)
    (hl : ls.size = nL) (hn : As.length = n) (hst : st = As.reverse ++ rest) (hW : (rest.map fun v => v.category).sum ≤ 8) (hdg : decode cc pc = .ok (.invokestatic index, 3)) (hf : cells + mc ≤ R.cells ∧ slots + ms ≤ R.slots)
    (kk : ∀ (r : Int32) (u : S) (H1 : Heap) (locs1 : List Loc), post r u → va_P D vwCl (pickW ws0 isR ++ W1 u) H1 → va_D A (pickW ws0 isR ++ W1 u) → va_S A s.heap H1 locs1 → W p l e R s m args below meth c H1 locs1 (cells + mc) (slots + ms) Q (F0 m (pc + 3) ls (.int r :: rest))) : W p l e R s m args below meth c H locs cells slots Q (F0 m pc ls st) := by
  subst hst
  have hF := va_free hD hS hA isC hC
  refine va_calli (va_runS (As := As) (rest := rest) F hM cw ⟨pre_blind, preC hK hP hD isC hC hn1⟩ rfl hn hl rfl (lv_room hW) hdg hf) hS (fun q _ h => hF q h) hF (fun r u t H1 locs1 ht hvm hw hB hz1 hk1 hS1 => ?_)
  obtain ⟨hP1, hK1, hD1⟩ := hB
  rw [ht] at hP1
  obtain ⟨hP2, hD2⟩ := joinC hP hD hS hA isC isR hC hRl hn2 hdis hk1 hP1 hD1
  exact kk r u H1 locs1 hw hP2 hD2 hS1
theorem cI_v {post : S → Prop} {As : List Value} (F : CallFix p m c cc nL s args Ts own) (hM : Cv l y ws rm D cI cZ cM (.ref b :: As) WC H.size post W1 mc ms) (cw : CallB R s args own index y bytes maxL none ws rm mc ms n ∧ y.name = "<init>" ∧ (Cond.instanceMethod y).before args s = true)
    (hK : va_K D vwCl (ty3 cI cZ cM) s) (hP : va_P D vwCl ws0 H) (hD : va_D A ws0) (hS : va_S A s.heap H locs) (hA : ∀ q : Nat, s.heap.size ≤ q → A q) (isC isR : List Nat) (hC : isC.map (fun i => ws0[i]?) = WC.map some) (hRl : isR.all (fun i => Nat.blt i ws0.length) = true) (hn1 : va_nd isC = true) (hn2 : va_nd isR = true) (hdis : ∀ i ∈ isR, i ∉ isC)
    (hl : ls.size = nL) (hn : As.length = n) (hst : st = As.reverse ++ .ref b :: rest) (hW : (rest.map fun v => v.category).sum ≤ 8) (hdg : decode cc pc = .ok (.invokespecial index, 3)) (hf : cells + mc ≤ R.cells ∧ slots + ms ≤ R.slots)
    (kk : ∀ (u : S) (H1 : Heap) (locs1 : List Loc), post u → va_P D vwCl (pickW ws0 isR ++ W1 u) H1 → va_D A (pickW ws0 isR ++ W1 u) → va_S A s.heap H1 locs1 → W p l e R s m args below meth c H1 locs1 (cells + mc) (slots + ms) Q (F0 m (pc + 3) ls rest)) : W p l e R s m args below meth c H locs cells slots Q (F0 m pc ls st) := by
  subst hst
  have hF := va_free hD hS hA isC hC
  refine va_callv (va_runI (As := As) (rest := rest) F hM cw ⟨pre_blind, preC hK hP hD isC hC hn1⟩ rfl hn hl rfl (lv_room hW) hdg hf) hS (fun q _ h => hF q h) hF (fun u t H1 locs1 ht hvm hw hB hz1 hk1 hS1 => ?_)
  obtain ⟨hP1, hK1, hD1⟩ := hB
  rw [ht] at hP1
  obtain ⟨hP2, hD2⟩ := joinC hP hD hS hA isC isR hC hRl hn2 hdis hk1 hP1 hD1
  exact kk u H1 locs1 hw hP2 hD2 hS1
theorem cN_v {post : S → Prop} {As : List Value} (F : CallFix p m c cc nL s args Ts own) (hM : Cv l y ws rm D cI cZ cM (.ref b :: As) WC H.size post W1 mc ms) (cw : va_CN R s args own index y host bytes maxL none ws rm mc ms n ∧ y.name = "<init>" ∧ (Cond.instanceMethod y).before args s = true)
    (hK : va_K D vwCl (ty3 cI cZ cM) s) (hP : va_P D vwCl ws0 H) (hD : va_D A ws0) (hS : va_S A s.heap H locs) (hA : ∀ q : Nat, s.heap.size ≤ q → A q) (isC isR : List Nat) (hC : isC.map (fun i => ws0[i]?) = WC.map some) (hRl : isR.all (fun i => Nat.blt i ws0.length) = true) (hn1 : va_nd isC = true) (hn2 : va_nd isR = true) (hdis : ∀ i ∈ isR, i ∉ isC)
    (hl : ls.size = nL) (hn : As.length = n) (hst : st = As.reverse ++ .ref b :: rest) (hW : (rest.map fun v => v.category).sum ≤ 8) (hdg : decode cc pc = .ok (.invokespecial index, 3)) (hf : cells + mc ≤ R.cells ∧ slots + ms ≤ R.slots)
    (kk : ∀ (u : S) (H1 : Heap) (locs1 : List Loc), post u → va_P D vwCl (pickW ws0 isR ++ W1 u) H1 → va_D A (pickW ws0 isR ++ W1 u) → va_S A s.heap H1 locs1 → W p l e R s m args below meth c H1 locs1 (cells + mc) (slots + ms) Q (F0 m (pc + 3) ls rest)) : W p l e R s m args below meth c H locs cells slots Q (F0 m pc ls st) := by
  subst hst
  have hF := va_free hD hS hA isC hC
  refine va_callv (va_runIN (As := As) (rest := rest) F hM cw ⟨pre_blind, preC hK hP hD isC hC hn1⟩ rfl hn hl rfl (lv_room hW) hdg hf) hS (fun q _ h => hF q h) hF (fun u t H1 locs1 ht hvm hw hB hz1 hk1 hS1 => ?_)
  obtain ⟨hP1, hK1, hD1⟩ := hB
  rw [ht] at hP1
  obtain ⟨hP2, hD2⟩ := joinC hP hD hS hA isC isR hC hRl hn2 hdis hk1 hP1 hD1
  exact kk u H1 locs1 hw hP2 hD2 hS1
end CL
/-! numbers: what a compare says, in whole numbers -/
theorem b_lt {x y : Int32} {a b : Int} (hx : x.toInt = a) (hy : y.toInt = b) (h : x < y) : a < b := by rw [← hx, ← hy]; exact Int32.lt_iff_toInt_lt.mp h
theorem b_le {x y : Int32} {a b : Int} (hx : x.toInt = a) (hy : y.toInt = b) (h : x ≤ y) : a ≤ b := by rw [← hx, ← hy]; exact Int32.le_iff_toInt_le.mp h
theorem b_nlt {x y : Int32} {a b : Int} (hx : x.toInt = a) (hy : y.toInt = b) (h : ¬ x < y) : b ≤ a := by
  rw [← hx, ← hy]; exact Int.not_lt.mp (fun q => h (Int32.lt_iff_toInt_lt.mpr q))
theorem b_nle {x y : Int32} {a b : Int} (hx : x.toInt = a) (hy : y.toInt = b) (h : ¬ x ≤ y) : b < a := by
  rw [← hx, ← hy]; exact Int.not_le.mp (fun q => h (Int32.le_iff_toInt_le.mpr q))
theorem b_eq {x y : Int32} {a b : Int} (hx : x.toInt = a) (hy : y.toInt = b) (h : x = y) : a = b := by rw [← hx, ← hy, h]
theorem b_ne {x y : Int32} {a b : Int} (hx : x.toInt = a) (hy : y.toInt = b) (h : ¬ x = y) : a ≠ b := by
  rw [← hx, ← hy]; exact fun q => h (Int32.toInt_inj.mp q)
theorem ti_add {x y : Int32} (h1 : -2147483648 ≤ x.toInt + y.toInt) (h2 : x.toInt + y.toInt < 2147483648) : (x + y).toInt = x.toInt + y.toInt := by
  rw [Int32.toInt_add]; exact Int.bmod_eq_of_le (by simpa using h1) (by simpa using h2)
theorem ti_sub {x y : Int32} (h1 : -2147483648 ≤ x.toInt - y.toInt) (h2 : x.toInt - y.toInt < 2147483648) : (x - y).toInt = x.toInt - y.toInt := by
  rw [Int32.toInt_sub]; exact Int.bmod_eq_of_le (by simpa using h1) (by simpa using h2)
theorem ti_mul {x y : Int32} (h1 : -2147483648 ≤ x.toInt * y.toInt) (h2 : x.toInt * y.toInt < 2147483648) : (x * y).toInt = x.toInt * y.toInt := by
  rw [Int32.toInt_mul]; exact Int.bmod_eq_of_le (by simpa using h1) (by simpa using h2)
theorem arr_same {U : State} {cA cB : ClassId} {ty : FieldType} (h1 : va_RA U cA ty) (h2 : va_RA U cB ty) : cA = cB := by
  cases ty with
  | object C =>
    obtain ⟨kA, comp, -, -, -, h4⟩ := h1
    obtain ⟨kB, comp2, -, -, -, g4⟩ := h2
    exact Option.some.inj (h4.symm.trans g4)
  | _ => exact Option.some.inj (h1.symm.trans h2)
section MR
variable {p : Program} {l : Launch} {e : Env} {R : Room} {s : State} {m : MethodId} {args : Array Value} {below : List Frame} {meth : Method} {c : Code} {H : Heap} {locs : List Loc} {cells slots : Nat} {Q : State → Prop} {pc : Nat} {ls : Array Slot} {rest : List Value}
theorem lv_topc {x y : Int32} (h : x = y) (k : W p l e R s m args below meth c H locs cells slots Q (F0 m pc ls (.int y :: rest))) : W p l e R s m args below meth c H locs cells slots Q (F0 m pc ls (.int x :: rest)) := h ▸ k
end MR
theorem nar_z {v : Int32} (h : v.toInt = 0 ∨ v.toInt = 1) : narrow .boolean (.int v) = .int v := by
  rcases h with h | h
  · have e : v = 0 := Int32.toInt_inj.mp (h.trans (show (0 : Int) = (0 : Int32).toInt by decide))
    subst e; rfl
  · have e : v = 1 := Int32.toInt_inj.mp (h.trans (show (1 : Int) = (1 : Int32).toInt by decide))
    subst e; rfl
theorem lcmp_t (x y : Int64) {z : Int32} (e : z = lg_cmp x y) : (z.toInt = -1 ∧ x.toInt < y.toInt) ∨ (z.toInt = 0 ∧ x.toInt = y.toInt) ∨ (z.toInt = 1 ∧ y.toInt < x.toInt) := by
  subst e
  unfold lg_cmp
  by_cases h1 : x > y
  · rw [if_pos h1]
    exact Or.inr (Or.inr ⟨by decide, Int64.lt_iff_toInt_lt.mp h1⟩)
  · have g1 : ¬ y.toInt < x.toInt := fun q => h1 (Int64.lt_iff_toInt_lt.mpr q)
    by_cases h2 : x = y
    · rw [if_neg h1, if_pos h2]
      exact Or.inr (Or.inl ⟨by decide, by rw [h2]⟩)
    · have g2 : ¬ x.toInt = y.toInt := fun q => h2 (Int64.toInt_inj.mp q)
      rw [if_neg h1, if_neg h2]
      exact Or.inl ⟨by decide, by omega⟩
theorem cl_of {i : Int32} : i.toNatClampNeg = i.toInt.toNat := rfl
theorem upd_ne {f : Nat → Int32} {i x : Int32} {j : Nat} (h0 : 0 ≤ i.toInt) (h : i.toInt ≠ (j : Int)) : upd f i.toNatClampNeg x j = f j := pk_un (by rw [cl_of]; omega)
theorem upd_eq {f : Nat → Int32} {i x : Int32} {j : Nat} (h : i.toInt = (j : Int)) : upd f i.toNatClampNeg x j = x := by
  have e : i.toNatClampNeg = j := by rw [cl_of]; omega
  rw [e]; exact pk_us
theorem ld_at (f : Nat → Int32) {i : Int32} (j : Nat) (h : i.toInt = (j : Int)) : f i.toNatClampNeg = f j := by
  have e : i.toNatClampNeg = j := by rw [cl_of]; omega
  rw [e]
section NW
variable {p : Program} {l : Launch} {e : Env} {R : Room} {s : State} {m : MethodId} {args : Array Value} {below : List Frame} {meth : Method} {c : Code} {H : Heap} {locs : List Loc} {cells slots : Nat} {Q : State → Prop} {cc : ByteArray} {pc : Nat} {ls : Array Slot} {rest : List Value} {D : va_G} {cI cZ cM : ClassId} {A : Nat → Prop} {ws0 : va_W}
theorem newI (hexec : p.tables.exec = Jvm.exec) (hb : c.code = cc) (harr : (Cond.arrayClass .int).before args s = true) (hK : va_K D vwCl (ty3 cI cZ cM) s) (hP : va_P D vwCl ws0 H) (hD : va_D A ws0) (hS : va_S A s.heap H locs) (hA : ∀ q : Nat, s.heap.size ≤ q → A q) {n : Int32} (N' : Nat) (hn : ¬ n < 0) (hN : n.toNatClampNeg = N') (hsm : N' ≤ 1000) (hcells : cells + 1 ≤ R.cells) (hslots : slots + N' ≤ R.slots) (hdg : decode cc pc = .ok (.newarray .int, 2))
    (kk : ∀ (q : Nat) (H1 : Heap), va_P D vwCl (ws0 ++ [(q, .inl (cI, N', .inl (fun _ => 0)))]) H1 → va_D A (ws0 ++ [(q, .inl (cI, N', .inl (fun _ => 0)))]) → va_S A s.heap H1 locs → W p l e R s m args below meth c H1 locs (cells + 1) (slots + N') Q (F0 m (pc + 2) ls (.ref q :: rest))) : W p l e R s m args below meth c H locs cells slots Q (F0 m pc ls (.int n :: rest)) := by
  refine va_newa (atype := .int) (ty := .int) (N' := N') (a0 := (N', .inl (fun _ => 0))) hexec hb harr rfl hK hP hD hS hA (fun cA => rfl) hn hN ?_ hcells hslots hdg (fun q cA H1 hKn hP hD hS => ?_)
  · have h4 : componentBytes .int = 4 := rfl
    rw [h4]; omega
  · have hcA : cA = cI := arr_same (hKn.2 3 (cA, .int) rfl).2 (hKn.2 0 (cI, .int) rfl).2
    rw [hcA] at hP hD
    exact kk q H1 hP hD hS
theorem newZ (hexec : p.tables.exec = Jvm.exec) (hb : c.code = cc) (harr : (Cond.arrayClass .boolean).before args s = true) (hK : va_K D vwCl (ty3 cI cZ cM) s) (hP : va_P D vwCl ws0 H) (hD : va_D A ws0) (hS : va_S A s.heap H locs) (hA : ∀ q : Nat, s.heap.size ≤ q → A q) {n : Int32} (N' : Nat) (hn : ¬ n < 0) (hN : n.toNatClampNeg = N') (hsm : N' ≤ 1000) (hcells : cells + 1 ≤ R.cells) (hslots : slots + N' ≤ R.slots) (hdg : decode cc pc = .ok (.newarray .boolean, 2))
    (kk : ∀ (q : Nat) (H1 : Heap), va_P D vwCl (ws0 ++ [(q, .inl (cZ, N', .inl (fun _ => 0)))]) H1 → va_D A (ws0 ++ [(q, .inl (cZ, N', .inl (fun _ => 0)))]) → va_S A s.heap H1 locs → W p l e R s m args below meth c H1 locs (cells + 1) (slots + N') Q (F0 m (pc + 2) ls (.ref q :: rest))) : W p l e R s m args below meth c H locs cells slots Q (F0 m pc ls (.int n :: rest)) := by
  refine va_newa (atype := .boolean) (ty := .boolean) (N' := N') (a0 := (N', .inl (fun _ => 0))) hexec hb harr rfl hK hP hD hS hA (fun cA => rfl) hn hN ?_ hcells hslots hdg (fun q cA H1 hKn hP hD hS => ?_)
  · have h4 : componentBytes .boolean = 1 := rfl
    rw [h4]; omega
  · have hcA : cA = cZ := arr_same (hKn.2 3 (cA, .boolean) rfl).2 (hKn.2 1 (cZ, .boolean) rfl).2
    rw [hcA] at hP hD
    exact kk q H1 hP hD hS
theorem newM (hexec : p.tables.exec = Jvm.exec) (hb : c.code = cc) {own : String} {index : Nat} (hown : s.vm.findClass own = some m.cls) (hclink : (Cond.classLink own index RX1).before args s = true) (hover : va_AO RX1 s) (hK : va_K D vwCl (ty3 cI cZ cM) s) (hP : va_P D vwCl ws0 H) (hD : va_D A ws0) (hS : va_S A s.heap H locs) (hA : ∀ q : Nat, s.heap.size ≤ q → A q) {n : Int32} (N' : Nat) (hn : ¬ n < 0) (hN : n.toNatClampNeg = N') (hsm : N' ≤ 1000) (hcells : cells + 1 ≤ R.cells) (hslots : slots + N' ≤ R.slots) (hdg : decode cc pc = .ok (.anewarray index, 3))
    (kk : ∀ (q : Nat) (H1 : Heap), va_P D vwCl (ws0 ++ [(q, .inl (cM, N', .inr (.inr (.inr (.inr (fun _ => none))))))]) H1 → va_D A (ws0 ++ [(q, .inl (cM, N', .inr (.inr (.inr (.inr (fun _ => none))))))]) → va_S A s.heap H1 locs → W p l e R s m args below meth c H1 locs (cells + 1) (slots + N') Q (F0 m (pc + 3) ls (.ref q :: rest))) : W p l e R s m args below meth c H locs cells slots Q (F0 m pc ls (.int n :: rest)) := by
  refine va_newq (C := RX1) (N' := N') hexec hb hown hclink hover hK hP hD hS hA hn hN (by omega) hcells hslots hdg (fun q cA H1 hKn hP hD hS => ?_)
  have hcA : cA = cM := arr_same (hKn.2 3 (cA, .object RX1) rfl).2 (hKn.2 2 (cM, .object RX1) rfl).2
  rw [hcA] at hP hD
  exact kk q H1 hP hD hS
end NW
theorem and63 {x v : Int32} (e : v = x &&& 63) : 0 ≤ v.toInt ∧ v.toInt ≤ 63 := by
  obtain ⟨j, hj, h⟩ := pk_andE x (m := 63) 6 (by decide)
  have h2 : v.toInt = (j : Int) := by rw [e, h]; exact nI_toInt (by omega)
  omega
theorem and1 {x v : Int32} (e : v = x &&& 1) : 0 ≤ v.toInt ∧ v.toInt ≤ 1 := by
  obtain ⟨j, hj, h⟩ := pk_andE x (m := 1) 1 (by decide)
  have h2 : v.toInt = (j : Int) := by rw [e, h]; exact nI_toInt (by omega)
  omega
theorem rem_t {x v d : Int32} {n : Nat} (hd : d = nI n) (hn : 0 < n ∧ n < 2 ^ 31) (h0 : 0 ≤ x.toInt) (e : v = x - x / d * d) : 0 ≤ v.toInt ∧ v.toInt < n := by
  have hx2 : x.toInt < 2147483648 := Int32.toInt_lt x
  have hx : x = nI x.toInt.toNat := by
    apply Int32.toInt_inj.mp
    rw [nI_toInt (by omega)]
    omega
  have h1 : v = nI (x.toInt.toNat % n) := by
    rw [e, hd, hx, pk_rem (by omega) hn.1 hn.2, ← hx]
  have hlt : x.toInt.toNat % n < n := Nat.mod_lt _ hn.1
  have h2 : v.toInt = ((x.toInt.toNat % n : Nat) : Int) := by rw [h1]; exact nI_toInt (by omega)
  omega
theorem ti_bd (x : Int32) : -2147483648 ≤ x.toInt ∧ x.toInt < 2147483648 := ⟨Int32.le_toInt x, Int32.toInt_lt x⟩
