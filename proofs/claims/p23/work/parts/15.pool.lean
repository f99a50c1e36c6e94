theorem dX1_init_0 : decode cX1_init 0 = .ok (.aload_n 0, 1) := by decide +kernel
theorem dX1_init_1 : decode cX1_init 1 = .ok (.invokespecial 3, 3) := by decide +kernel
theorem dX1_init_4 : decode cX1_init 4 = .ok (.aload_n 0, 1) := by decide +kernel
theorem dX1_init_5 : decode cX1_init 5 = .ok (.iconst 0, 1) := by decide +kernel
theorem dX1_init_6 : decode cX1_init 6 = .ok (.putfield 9, 3) := by decide +kernel
theorem dX1_init_9 : decode cX1_init 9 = .ok (.aload_n 0, 1) := by decide +kernel
theorem dX1_init_10 : decode cX1_init 10 = .ok (.iconst 0, 1) := by decide +kernel
theorem dX1_init_11 : decode cX1_init 11 = .ok (.putfield 15, 3) := by decide +kernel
theorem dX1_init_14 : decode cX1_init 14 = .ok (.aload_n 0, 1) := by decide +kernel
theorem dX1_init_15 : decode cX1_init 15 = .ok (.iconst 0, 1) := by decide +kernel
theorem dX1_init_16 : decode cX1_init 16 = .ok (.putfield 18, 3) := by decide +kernel
theorem dX1_init_19 : decode cX1_init 19 = .ok (.aload_n 0, 1) := by decide +kernel
theorem dX1_init_20 : decode cX1_init 20 = .ok (.iconst 0, 1) := by decide +kernel
theorem dX1_init_21 : decode cX1_init 21 = .ok (.putfield 21, 3) := by decide +kernel
theorem dX1_init_24 : decode cX1_init 24 = .ok (.aload_n 0, 1) := by decide +kernel
theorem dX1_init_25 : decode cX1_init 25 = .ok (.iconst 5, 1) := by decide +kernel
theorem dX1_init_26 : decode cX1_init 26 = .ok (.newarray .int, 2) := by decide +kernel
theorem dX1_init_28 : decode cX1_init 28 = .ok (.putfield 24, 3) := by decide +kernel
theorem dX1_init_31 : decode cX1_init 31 = .ok (.aload_n 0, 1) := by decide +kernel
theorem dX1_init_32 : decode cX1_init 32 = .ok (.bipush 7, 2) := by decide +kernel
theorem dX1_init_34 : decode cX1_init 34 = .ok (.newarray .int, 2) := by decide +kernel
theorem dX1_init_36 : decode cX1_init 36 = .ok (.putfield 28, 3) := by decide +kernel
theorem dX1_init_39 : decode cX1_init 39 = .ok (.aload_n 0, 1) := by decide +kernel
theorem dX1_init_40 : decode cX1_init 40 = .ok (.bipush 7, 2) := by decide +kernel
theorem dX1_init_42 : decode cX1_init 42 = .ok (.newarray .int, 2) := by decide +kernel
theorem dX1_init_44 : decode cX1_init 44 = .ok (.putfield 31, 3) := by decide +kernel
theorem dX1_init_47 : decode cX1_init 47 = .ok (.aload_n 0, 1) := by decide +kernel
theorem dX1_init_48 : decode cX1_init 48 = .ok (.aload_n 1, 1) := by decide +kernel
theorem dX1_init_49 : decode cX1_init 49 = .ok (.putfield 34, 3) := by decide +kernel
theorem dX1_init_52 : decode cX1_init 52 = .ok (.return_, 1) := by decide +kernel
set_option maxRecDepth 20000 in
theorem ggX3_keepIn_X1_init : GoodIn wsX3_keepIn wsX1_init := goodIn_r _ [8, 9, 10, 11, 12, 13, 14, 15, 16, 17, 18, 19, 20, 29, 30, 31, 32, 33, 34, 35, 36] rfl (by decide +kernel)
set_option maxRecDepth 20000 in
theorem gX3_keepIn_X1_init : GoodIn wsX3_keepIn (wsX1_init) := ggX3_keepIn_X1_init
set_option maxRecDepth 20000 in
theorem ggX3_keepIn_X1_copy : GoodIn wsX3_keepIn wsX1_copy := goodIn_r _ [24, 12, 13, 14, 15, 17, 25, 26, 27, 28, 18, 19, 29, 30, 31, 32, 33, 34, 35, 36] rfl (by decide +kernel)
set_option maxRecDepth 20000 in
theorem gX3_keepIn_X1_copy : GoodIn wsX3_keepIn (wsV RX3 168 RX1 yX1_copy wsX1_copy) := goodIn_app (goodIn_r _ [21, 22, 23, 3] rfl (by decide +kernel)) ggX3_keepIn_X1_copy
theorem dX3_keepIn_0 : decode cX3_keepIn 0 = .ok (.aload_n 1, 1) := by decide +kernel
theorem dX3_keepIn_1 : decode cX3_keepIn 1 = .ok (.iload_n 2, 1) := by decide +kernel
theorem dX3_keepIn_2 : decode cX3_keepIn 2 = .ok (.aaload, 1) := by decide +kernel
theorem dX3_keepIn_3 : decode cX3_keepIn 3 = .ok (.astore_n 3, 1) := by decide +kernel
theorem dX3_keepIn_4 : decode cX3_keepIn 4 = .ok (.aload_n 3, 1) := by decide +kernel
theorem dX3_keepIn_5 : decode cX3_keepIn 5 = .ok (.ifnonnull 19, 3) := by decide +kernel
theorem dX3_keepIn_8 : decode cX3_keepIn 8 = .ok (.new 27, 3) := by decide +kernel
theorem dX3_keepIn_11 : decode cX3_keepIn 11 = .ok (.dup, 1) := by decide +kernel
theorem dX3_keepIn_12 : decode cX3_keepIn 12 = .ok (.aload_n 0, 1) := by decide +kernel
theorem dX3_keepIn_13 : decode cX3_keepIn 13 = .ok (.getfield 20, 3) := by decide +kernel
theorem dX3_keepIn_16 : decode cX3_keepIn 16 = .ok (.invokespecial 29, 3) := by decide +kernel
theorem dX3_keepIn_19 : decode cX3_keepIn 19 = .ok (.astore_n 3, 1) := by decide +kernel
theorem dX3_keepIn_20 : decode cX3_keepIn 20 = .ok (.aload_n 1, 1) := by decide +kernel
theorem dX3_keepIn_21 : decode cX3_keepIn 21 = .ok (.iload_n 2, 1) := by decide +kernel
theorem dX3_keepIn_22 : decode cX3_keepIn 22 = .ok (.aload_n 3, 1) := by decide +kernel
theorem dX3_keepIn_23 : decode cX3_keepIn 23 = .ok (.aastore, 1) := by decide +kernel
theorem dX3_keepIn_24 : decode cX3_keepIn 24 = .ok (.aload_n 3, 1) := by decide +kernel
theorem dX3_keepIn_25 : decode cX3_keepIn 25 = .ok (.aload_n 0, 1) := by decide +kernel
theorem dX3_keepIn_26 : decode cX3_keepIn 26 = .ok (.getfield 32, 3) := by decide +kernel
theorem dX3_keepIn_29 : decode cX3_keepIn 29 = .ok (.invokevirtual 168, 3) := by decide +kernel
theorem dX3_keepIn_32 : decode cX3_keepIn 32 = .ok (.return_, 1) := by decide +kernel
/-! worlds with a tail: calls that leave it, calls that take it; moments in any number -/
theorem va_P_of {D : va_G} {ws : va_W} {H : Heap} (h : ∀ q ∈ ws, va_at D vwCl q H) : va_P D vwCl ws H := fun k q hk => h q (List.mem_of_getElem? hk)
theorem va_P_mem {D : va_G} {ws : va_W} {H : Heap} (h : va_P D vwCl ws H) : ∀ q ∈ ws, va_at D vwCl q H := fun q hq => by
  obtain ⟨k, hk⟩ := List.getElem?_of_mem hq
  exact h k q hk
theorem va_D_iff {A : Nat → Prop} {ws : va_W} : va_D A ws ↔ (ws.map (·.1)).Nodup ∧ ∀ q ∈ ws, A q.1 := by
  constructor
  · intro h
    refine ⟨?_, fun q hq => ?_⟩
    · refine List.pairwise_iff_getElem.mpr ?_
      intro i j hi hj hij e
      have hi2 : i < ws.length := by rw [List.length_map] at hi; exact hi
      have hj2 : j < ws.length := by rw [List.length_map] at hj; exact hj
      rw [List.getElem_map, List.getElem_map] at e
      have := h.1 i j ws[i] ws[j] (List.getElem?_eq_getElem hi2) (List.getElem?_eq_getElem hj2) e
      omega
    · obtain ⟨k, hk⟩ := List.getElem?_of_mem hq
      exact h.2 k q hk
  · intro h
    refine ⟨fun i j p q hi hj e => ?_, fun k q hk => h.2 q (List.mem_of_getElem? hk)⟩
    have g := List.pairwise_iff_getElem.mp h.1
    have mi : (ws.map (·.1))[i]? = some p.1 := by rw [List.getElem?_map, hi]; rfl
    have mj : (ws.map (·.1))[j]? = some q.1 := by rw [List.getElem?_map, hj]; rfl
    obtain ⟨ki, ei⟩ := List.getElem?_eq_some_iff.mp mi
    obtain ⟨kj, ej⟩ := List.getElem?_eq_some_iff.mp mj
    rcases Nat.lt_trichotomy i j with h1 | h1 | h1
    · exact absurd (ei.trans (e.trans ej.symm)) (g i j ki kj h1)
    · exact h1
    · exact absurd (ej.trans (e.symm.trans ei.symm)) (g j i kj ki h1)
theorem va_P_perm {D : va_G} {ws ws' : va_W} {H : Heap} (h : va_P D vwCl ws H) (p : ws.Perm ws') : va_P D vwCl ws' H := va_P_of fun q hq => va_P_mem h q (p.mem_iff.mpr hq)
theorem va_D_perm {A : Nat → Prop} {ws ws' : va_W} (h : va_D A ws) (p : ws.Perm ws') : va_D A ws' := by
  rw [va_D_iff] at h ⊢
  exact ⟨(p.map (·.1)).nodup_iff.mp h.1, fun q hq => h.2 q (p.mem_iff.mpr hq)⟩
theorem va_P_left {D : va_G} {X pl : va_W} {H : Heap} (h : va_P D vwCl (X ++ pl) H) : va_P D vwCl X H := va_P_of fun q hq => va_P_mem h q (List.mem_append_left _ hq)
theorem va_D_left {A : Nat → Prop} {X pl : va_W} (h : va_D A (X ++ pl)) : va_D A X := by
  rw [va_D_iff] at h ⊢
  rw [List.map_append] at h
  exact ⟨(List.nodup_append.mp h.1).1, fun q hq => h.2 q (List.mem_append_left _ hq)⟩
theorem pm1 (A B C E : va_W) : (A ++ (B ++ (C ++ E))).Perm ((A ++ C) ++ (B ++ E)) := by
  rw [List.append_assoc]
  exact (List.perm_append_comm_assoc B C E).append_left A
theorem pm2 (A B C : va_W) : ((A ++ B) ++ C).Perm ((A ++ C) ++ B) := by
  rw [List.append_assoc, List.append_assoc]
  exact List.perm_append_comm.append_left A
section CF
variable {p : Program} {l : Launch} {e : Env} {R : Room} {s : State} {m : MethodId} {args : Array Value} {below : List Frame} {meth : Method} {c : Code} {H : Heap} {locs : List Loc} {cells slots mc ms : Nat} {Q : State → Prop} {cc : ByteArray} {pc : Nat} {ls : Array Slot} {D : va_G} {cI cZ cM : ClassId} {A : Nat → Prop} {S : Type} {W1 : S → va_W}
variable {y : MethodName} {bytes : ByteArray} {maxL nL n index ci : Nat} {ret : Option FieldType} {ws Ts : List Cond} {rm : Room} {own C host : String} {b : Addr} {rest st : List Value} {WC ws0 pl : va_W} {T : u_T} {N : Nat} {fs : List Value}
theorem joinQ' (hP : va_P D vwCl (ws0 ++ pl) H) (hD : va_D A (ws0 ++ pl)) (hS : va_S A s.heap H locs) (hA : ∀ q : Nat, s.heap.size ≤ q → A q) (isC isR : List Nat) (hC : isC.map (fun i => ws0[i]?) = WC.map some) (hR : isR.all (fun i => Nat.blt i ws0.length) = true) (hn2 : va_nd isR = true) (hdis : ∀ i ∈ isR, i ∉ isC) {H1 : Heap} {w1 : va_W}
    (hk : ∀ q : Nat, q < H.size → ¬ va_A WC H.size q → H1[q]? = H[q]?) (hP1 : va_P D vwCl w1 H1) (hD1 : va_D (va_A WC H.size) w1) : va_P D vwCl ((pickW ws0 isR ++ w1) ++ pl) H1 ∧ va_D A ((pickW ws0 isR ++ w1) ++ pl) :=
  va_joinQ hP hD isC isR hC (pick_map (fun i hi => Nat.le_of_ble_eq_true (List.all_eq_true.mp hR i hi))) hn2 hdis hk (va_free (va_D_left hD) hS hA isC hC) hP1 hD1
/-- a call whose world lies in the front part; the tail stays -/
theorem fV_i {post : Int32 → S → Prop} {As : List Value} (F : CallFix p m c cc nL s args Ts own) (hM : Ci l y ws rm D cI cZ cM (.ref b :: As) WC H.size post W1 mc ms) (cw : CallW R s args own C index y bytes maxL ret ws rm mc ms n)
    (hK : va_K D vwCl (ty3 cI cZ cM) s) (hP : va_P D vwCl (ws0 ++ pl) H) (hD : va_D A (ws0 ++ pl)) (hS : va_S A s.heap H locs) (hA : ∀ q : Nat, s.heap.size ≤ q → A q) (isC isR : List Nat) (hC : isC.map (fun i => ws0[i]?) = WC.map some) (hRl : isR.all (fun i => Nat.blt i ws0.length) = true) (hn1 : va_nd isC = true) (hn2 : va_nd isR = true) (hdis : ∀ i ∈ isR, i ∉ isC)
    (hci : vwCl[ci]? = some (C, T, N)) (q0 : Nat) (hrec : ws0[q0]? = some (b, .inr (ci, fs))) (hl : ls.size = nL) (hn : As.length = n) (hst : st = As.reverse ++ .ref b :: rest) (hW : (rest.map fun v => v.category).sum ≤ 8) (hdg : decode cc pc = .ok (.invokevirtual index, 3)) (hf : cells + mc ≤ R.cells ∧ slots + ms ≤ R.slots)
    (kk : ∀ (r : Int32) (u : S) (H1 : Heap) (locs1 : List Loc), post r u → va_P D vwCl ((pickW ws0 isR ++ W1 u) ++ pl) H1 → va_D A ((pickW ws0 isR ++ W1 u) ++ pl) → va_S A s.heap H1 locs1 → W p l e R s m args below meth c H1 locs1 (cells + mc) (slots + ms) Q (F0 m (pc + 3) ls (.int r :: rest))) : W p l e R s m args below meth c H locs cells slots Q (F0 m pc ls st) := by
  subst hst
  have hPX := va_P_left hP
  have hDX := va_D_left hD
  have hF := va_free hDX hS hA isC hC
  refine va_calli (va_runV (As := As) (rest := rest) F hM cw ⟨pre_blind, va_recv hK hPX hci hrec, preC hK hPX hDX isC hC hn1⟩ rfl hn hl rfl (lv_room hW) hdg hf) hS (fun q _ h => hF q h) hF (fun r u t H1 locs1 ht hvm hw hB hz1 hk1 hS1 => ?_)
  obtain ⟨hP1, hK1, hD1⟩ := hB
  rw [ht] at hP1
  obtain ⟨hP2, hD2⟩ := joinQ' hP hD hS hA isC isR hC hRl hn2 hdis hk1 hP1 hD1
  exact kk r u H1 locs1 hw hP2 hD2 hS1
theorem fV_v {post : S → Prop} {As : List Value} (F : CallFix p m c cc nL s args Ts own) (hM : Cv l y ws rm D cI cZ cM (.ref b :: As) WC H.size post W1 mc ms) (cw : CallW R s args own C index y bytes maxL ret ws rm mc ms n)
    (hK : va_K D vwCl (ty3 cI cZ cM) s) (hP : va_P D vwCl (ws0 ++ pl) H) (hD : va_D A (ws0 ++ pl)) (hS : va_S A s.heap H locs) (hA : ∀ q : Nat, s.heap.size ≤ q → A q) (isC isR : List Nat) (hC : isC.map (fun i => ws0[i]?) = WC.map some) (hRl : isR.all (fun i => Nat.blt i ws0.length) = true) (hn1 : va_nd isC = true) (hn2 : va_nd isR = true) (hdis : ∀ i ∈ isR, i ∉ isC)
    (hci : vwCl[ci]? = some (C, T, N)) (q0 : Nat) (hrec : ws0[q0]? = some (b, .inr (ci, fs))) (hl : ls.size = nL) (hn : As.length = n) (hst : st = As.reverse ++ .ref b :: rest) (hW : (rest.map fun v => v.category).sum ≤ 8) (hdg : decode cc pc = .ok (.invokevirtual index, 3)) (hf : cells + mc ≤ R.cells ∧ slots + ms ≤ R.slots)
    (kk : ∀ (u : S) (H1 : Heap) (locs1 : List Loc), post u → va_P D vwCl ((pickW ws0 isR ++ W1 u) ++ pl) H1 → va_D A ((pickW ws0 isR ++ W1 u) ++ pl) → va_S A s.heap H1 locs1 → W p l e R s m args below meth c H1 locs1 (cells + mc) (slots + ms) Q (F0 m (pc + 3) ls rest)) : W p l e R s m args below meth c H locs cells slots Q (F0 m pc ls st) := by
  subst hst
  have hPX := va_P_left hP
  have hDX := va_D_left hD
  have hF := va_free hDX hS hA isC hC
  refine va_callv (va_runV (As := As) (rest := rest) F hM cw ⟨pre_blind, va_recv hK hPX hci hrec, preC hK hPX hDX isC hC hn1⟩ rfl hn hl rfl (lv_room hW) hdg hf) hS (fun q _ h => hF q h) hF (fun u t H1 locs1 ht hvm hw hB hz1 hk1 hS1 => ?_)
  obtain ⟨hP1, hK1, hD1⟩ := hB
  rw [ht] at hP1
  obtain ⟨hP2, hD2⟩ := joinQ' hP hD hS hA isC isR hC hRl hn2 hdis hk1 hP1 hD1
  exact kk u H1 locs1 hw hP2 hD2 hS1
theorem fV_l {post : Int64 → S → Prop} {As : List Value} (F : CallFix p m c cc nL s args Ts own) (hM : Cl l y ws rm D cI cZ cM (.ref b :: As) WC H.size post W1 mc ms) (cw : CallW R s args own C index y bytes maxL ret ws rm mc ms n)
    (hK : va_K D vwCl (ty3 cI cZ cM) s) (hP : va_P D vwCl (ws0 ++ pl) H) (hD : va_D A (ws0 ++ pl)) (hS : va_S A s.heap H locs) (hA : ∀ q : Nat, s.heap.size ≤ q → A q) (isC isR : List Nat) (hC : isC.map (fun i => ws0[i]?) = WC.map some) (hRl : isR.all (fun i => Nat.blt i ws0.length) = true) (hn1 : va_nd isC = true) (hn2 : va_nd isR = true) (hdis : ∀ i ∈ isR, i ∉ isC)
    (hci : vwCl[ci]? = some (C, T, N)) (q0 : Nat) (hrec : ws0[q0]? = some (b, .inr (ci, fs))) (hl : ls.size = nL) (hn : As.length = n) (hst : st = As.reverse ++ .ref b :: rest) (hW : (rest.map fun v => v.category).sum ≤ 8) (hdg : decode cc pc = .ok (.invokevirtual index, 3)) (hf : cells + mc ≤ R.cells ∧ slots + ms ≤ R.slots)
    (kk : ∀ (r : Int64) (u : S) (H1 : Heap) (locs1 : List Loc), post r u → va_P D vwCl ((pickW ws0 isR ++ W1 u) ++ pl) H1 → va_D A ((pickW ws0 isR ++ W1 u) ++ pl) → va_S A s.heap H1 locs1 → W p l e R s m args below meth c H1 locs1 (cells + mc) (slots + ms) Q (F0 m (pc + 3) ls (.long r :: rest))) : W p l e R s m args below meth c H locs cells slots Q (F0 m pc ls st) := by
  subst hst
  have hPX := va_P_left hP
  have hDX := va_D_left hD
  have hF := va_free hDX hS hA isC hC
  refine va_calll (va_runV (As := As) (rest := rest) F hM cw ⟨pre_blind, va_recv hK hPX hci hrec, preC hK hPX hDX isC hC hn1⟩ rfl hn hl rfl (lv_room hW) hdg hf) hS (fun q _ h => hF q h) hF (fun r u t H1 locs1 ht hvm hw hB hz1 hk1 hS1 => ?_)
  obtain ⟨hP1, hK1, hD1⟩ := hB
  rw [ht] at hP1
  obtain ⟨hP2, hD2⟩ := joinQ' hP hD hS hA isC isR hC hRl hn2 hdis hk1 hP1 hD1
  exact kk r u H1 locs1 hw hP2 hD2 hS1
end CF
theorem P_subF {D : va_G} {X X' pl : va_W} {H : Heap} (h : va_P D vwCl (X ++ pl) H) (is : List Nat) (hs : is.filterMap (fun i => X[i]?) = X') : va_P D vwCl (X' ++ pl) H := by
  refine va_P_of fun q hq => ?_
  rcases List.mem_append.mp hq with h1 | h1
  · rw [← hs] at h1
    obtain ⟨i, -, hi⟩ := List.mem_filterMap.mp h1
    exact va_P_mem h q (List.mem_append_left _ (List.mem_of_getElem? hi))
  · exact va_P_mem h q (List.mem_append_right _ h1)
theorem D_subF {A : Nat → Prop} {X X' pl : va_W} (h : va_D A (X ++ pl)) (is : List Nat) (hn : va_nd is = true) (hs : is.map (fun i => X[i]?) = X'.map some) : va_D A (X' ++ pl) := by
  have hX' : va_D A X' := (va_D_left h).sub is hn hs
  have hm : ∀ q ∈ X', q ∈ X := by
    intro q hq
    have h1 : some q ∈ X'.map some := List.mem_map.mpr ⟨q, hq, rfl⟩
    rw [← hs] at h1
    obtain ⟨i, -, hi⟩ := List.mem_map.mp h1
    exact List.mem_of_getElem? hi
  rw [va_D_iff] at h hX' ⊢
  rw [List.map_append, List.nodup_append] at h
  refine ⟨?_, fun q hq => ?_⟩
  · rw [List.map_append, List.nodup_append]
    refine ⟨hX'.1, h.1.2.1, fun a ha b hb => ?_⟩
    obtain ⟨q, hq, rfl⟩ := List.mem_map.mp ha
    exact h.1.2.2 _ (List.mem_map.mpr ⟨q, hm q hq, rfl⟩) b hb
  · rcases List.mem_append.mp hq with h1 | h1
    · exact h.2 q (List.mem_append_left _ (hm q h1))
    · exact h.2 q (List.mem_append_right _ h1)
/-- a moment: addresses (its own, the line's, its three rows'), numbers (day, tickets, returns, gone), rows -/
abbrev Mom : Type := (Nat × Nat × Nat × Nat × Nat) × (Int32 × Int32 × Int32 × Int32) × ((Nat → Int32) × (Nat → Int32) × (Nat → Int32))
def mG (cI : ClassId) (M : Mom) : va_W := [(M.1.1, .inr (1, [.ref M.1.2.1, .int M.2.1.1, .int M.2.1.2.1, .int M.2.1.2.2.1, .int M.2.1.2.2.2, .ref M.1.2.2.1, .ref M.1.2.2.2.1, .ref M.1.2.2.2.2])), (M.1.2.2.1, .inl (cI, 5, .inl M.2.2.1)), (M.1.2.2.2.1, .inl (cI, 7, .inl M.2.2.2.1)), (M.1.2.2.2.2, .inl (cI, 7, .inl M.2.2.2.2))]
def plW (cI : ClassId) (L : List Mom) : va_W := L.flatMap (mG cI)
def MOk (M : Mom) : Prop := 0 ≤ M.2.1.1.toInt ∧ M.2.1.1.toInt ≤ 10 ∧ 0 ≤ M.2.1.2.1.toInt ∧ M.2.1.2.1.toInt ≤ 6
def MsOk (L : List Mom) : Prop := ∀ M ∈ L, MOk M
/-- every place of a row of places that is not empty holds a moment of the pool -/
def InPool (K : Nat) (f : Nat → Option Nat) (L : List Mom) : Prop := ∀ (i a : Nat), i < K → f i = some a → ∃ M ∈ L, M.1.1 = a
/-- what was in the pool is there still -/
def Keeps (L L' : List Mom) : Prop := ∀ M ∈ L, ∃ M' ∈ L', M'.1.1 = M.1.1
theorem InPool.keeps {K : Nat} {f : Nat → Option Nat} {L L' : List Mom} (h : InPool K f L) (k : Keeps L L') : InPool K f L' := fun i a hi e => by
  obtain ⟨M, hM, h1⟩ := h i a hi e
  obtain ⟨M', hM', h2⟩ := k M hM
  exact ⟨M', hM', h2.trans h1⟩
theorem plW_mid (cI : ClassId) (L1 L2 : List Mom) (M : Mom) : plW cI (L1 ++ M :: L2) = plW cI L1 ++ (mG cI M ++ plW cI L2) := by
  simp [plW, List.flatMap_append, List.flatMap_cons]
theorem plW_end (cI : ClassId) (L : List Mom) (M : Mom) : plW cI (L ++ [M]) = plW cI L ++ mG cI M := by
  simp [plW, List.flatMap_append]
theorem pm3 (A G P : va_W) : ((A ++ G) ++ P).Perm (A ++ (P ++ G)) := by
  rw [List.append_assoc]
  exact List.perm_append_comm.append_left A
section CG
variable {p : Program} {l : Launch} {e : Env} {R : Room} {s : State} {m : MethodId} {args : Array Value} {below : List Frame} {meth : Method} {c : Code} {H : Heap} {locs : List Loc} {cells slots mc ms : Nat} {Q : State → Prop} {cc : ByteArray} {pc : Nat} {ls : Array Slot} {D : va_G} {cI cZ cM : ClassId} {A : Nat → Prop} {S : Type} {W1 rx pl1 : S → va_W}
variable {y : MethodName} {bytes : ByteArray} {maxL nL n index ci : Nat} {ret : Option FieldType} {ws Ts : List Cond} {rm : Room} {own C host : String} {b : Addr} {rest st : List Value} {WC ws0 pl : va_W} {T : u_T} {N : Nat} {fs : List Value}
theorem filt_of {X WC : va_W} {isC : List Nat} (hC : isC.map (fun i => X[i]?) = WC.map some) : isC.filterMap (fun i => X[i]?) = WC := by
  have h := congrArg (fun z : List (Option (Nat × va_E)) => z.filterMap id) hC
  simpa [List.filterMap_map] using h
theorem preG (hK : va_K D vwCl (ty3 cI cZ cM) s) (hP : va_P D vwCl (ws0 ++ pl) H) (hD : va_D A (ws0 ++ pl)) (isC : List Nat) (hC : isC.map (fun i => ws0[i]?) = WC.map some) (hn1 : va_nd isC = true) {av : List Value} : ∀ U : State, U.heap = H → s.WarmedH U.vm → va_Pc av (Pre D cI cZ cM (WC ++ pl) H.size) av.toArray U := by
  intro U hU hW
  exact ⟨rfl, by rw [hU], by rw [hU]; exact P_subF hP isC (filt_of hC), va_K.moved hW.alike hK, (D_subF hD isC hn1 hC).weaken (fun _ _ _ _ => trivial)⟩
theorem freeG (hD : va_D A (WC ++ pl)) (hS : va_S A s.heap H locs) (hA : ∀ q : Nat, s.heap.size ≤ q → A q) : ∀ q : Nat, va_A (WC ++ pl) H.size q → A q := by
  intro q h
  rcases h with ⟨k, e, h⟩ | h
  · exact hD.2 k _ h
  · exact hA q (Nat.le_trans hS.1 h)
/-- a call that takes the tail too -/
theorem gV_i {post : Int32 → S → Prop} {As : List Value} (F : CallFix p m c cc nL s args Ts own) (hM : Ci l y ws rm D cI cZ cM (.ref b :: As) (WC ++ pl) H.size post (fun u => rx u ++ pl1 u) mc ms) (cw : CallW R s args own C index y bytes maxL ret ws rm mc ms n)
    (hK : va_K D vwCl (ty3 cI cZ cM) s) (hP : va_P D vwCl (ws0 ++ pl) H) (hD : va_D A (ws0 ++ pl)) (hS : va_S A s.heap H locs) (hA : ∀ q : Nat, s.heap.size ≤ q → A q) (isC isR : List Nat) (hC : isC.map (fun i => ws0[i]?) = WC.map some) (hRl : isR.all (fun i => Nat.blt i ws0.length) = true) (hn1 : va_nd isC = true) (hn2 : va_nd isR = true) (hdis : ∀ i ∈ isR, i ∉ isC)
    (hci : vwCl[ci]? = some (C, T, N)) (q0 : Nat) (hrec : ws0[q0]? = some (b, .inr (ci, fs))) (hl : ls.size = nL) (hn : As.length = n) (hst : st = As.reverse ++ .ref b :: rest) (hW : (rest.map fun v => v.category).sum ≤ 8) (hdg : decode cc pc = .ok (.invokevirtual index, 3)) (hf : cells + mc ≤ R.cells ∧ slots + ms ≤ R.slots)
    (kk : ∀ (r : Int32) (u : S) (H1 : Heap) (locs1 : List Loc), post r u → va_P D vwCl ((pickW ws0 isR ++ rx u) ++ pl1 u) H1 → va_D A ((pickW ws0 isR ++ rx u) ++ pl1 u) → va_S A s.heap H1 locs1 → W p l e R s m args below meth c H1 locs1 (cells + mc) (slots + ms) Q (F0 m (pc + 3) ls (.int r :: rest))) : W p l e R s m args below meth c H locs cells slots Q (F0 m pc ls st) := by
  subst hst
  have hF := freeG (D_subF hD isC hn1 hC) hS hA
  refine va_calli (va_runV (As := As) (rest := rest) F hM cw ⟨pre_blind, va_recv hK (va_P_left hP) hci hrec, preG hK hP hD isC hC hn1⟩ rfl hn hl rfl (lv_room hW) hdg hf) hS (fun q _ h => hF q h) hF (fun r u t H1 locs1 ht hvm hw hB hz1 hk1 hS1 => ?_)
  obtain ⟨hP1, hK1, hD1⟩ := hB
  rw [ht] at hP1
  obtain ⟨hP2, hD2⟩ := va_joinP hP hD isC isR hC (pick_map (fun i hi => Nat.le_of_ble_eq_true (List.all_eq_true.mp hRl i hi))) hn2 hdis hk1 hF hP1 hD1
  exact kk r u H1 locs1 hw hP2 hD2 hS1
theorem gV_v {post : S → Prop} {As : List Value} (F : CallFix p m c cc nL s args Ts own) (hM : Cv l y ws rm D cI cZ cM (.ref b :: As) (WC ++ pl) H.size post (fun u => rx u ++ pl1 u) mc ms) (cw : CallW R s args own C index y bytes maxL ret ws rm mc ms n)
    (hK : va_K D vwCl (ty3 cI cZ cM) s) (hP : va_P D vwCl (ws0 ++ pl) H) (hD : va_D A (ws0 ++ pl)) (hS : va_S A s.heap H locs) (hA : ∀ q : Nat, s.heap.size ≤ q → A q) (isC isR : List Nat) (hC : isC.map (fun i => ws0[i]?) = WC.map some) (hRl : isR.all (fun i => Nat.blt i ws0.length) = true) (hn1 : va_nd isC = true) (hn2 : va_nd isR = true) (hdis : ∀ i ∈ isR, i ∉ isC)
    (hci : vwCl[ci]? = some (C, T, N)) (q0 : Nat) (hrec : ws0[q0]? = some (b, .inr (ci, fs))) (hl : ls.size = nL) (hn : As.length = n) (hst : st = As.reverse ++ .ref b :: rest) (hW : (rest.map fun v => v.category).sum ≤ 8) (hdg : decode cc pc = .ok (.invokevirtual index, 3)) (hf : cells + mc ≤ R.cells ∧ slots + ms ≤ R.slots)
    (kk : ∀ (u : S) (H1 : Heap) (locs1 : List Loc), post u → va_P D vwCl ((pickW ws0 isR ++ rx u) ++ pl1 u) H1 → va_D A ((pickW ws0 isR ++ rx u) ++ pl1 u) → va_S A s.heap H1 locs1 → W p l e R s m args below meth c H1 locs1 (cells + mc) (slots + ms) Q (F0 m (pc + 3) ls rest)) : W p l e R s m args below meth c H locs cells slots Q (F0 m pc ls st) := by
  subst hst
  have hF := freeG (D_subF hD isC hn1 hC) hS hA
  refine va_callv (va_runV (As := As) (rest := rest) F hM cw ⟨pre_blind, va_recv hK (va_P_left hP) hci hrec, preG hK hP hD isC hC hn1⟩ rfl hn hl rfl (lv_room hW) hdg hf) hS (fun q _ h => hF q h) hF (fun u t H1 locs1 ht hvm hw hB hz1 hk1 hS1 => ?_)
  obtain ⟨hP1, hK1, hD1⟩ := hB
  rw [ht] at hP1
  obtain ⟨hP2, hD2⟩ := va_joinP hP hD isC isR hC (pick_map (fun i hi => Nat.le_of_ble_eq_true (List.all_eq_true.mp hRl i hi))) hn2 hdis hk1 hF hP1 hD1
  exact kk u H1 locs1 hw hP2 hD2 hS1
/-- static calls and makers, the tail stays -/
theorem fS_i {post : Int32 → S → Prop} {As : List Value} (F : CallFix p m c cc nL s args Ts own) (hM : Ci l y ws rm D cI cZ cM As WC H.size post W1 mc ms) (cw : CallB R s args own index y bytes maxL ret ws rm mc ms n ∧ (Cond.static y).before args s = true)
    (hK : va_K D vwCl (ty3 cI cZ cM) s) (hP : va_P D vwCl (ws0 ++ pl) H) (hD : va_D A (ws0 ++ pl)) (hS : va_S A s.heap H locs) (hA : ∀ q : Nat, s.heap.size ≤ q → A q) (isC isR : List Nat) (hC : isC.map (fun i => ws0[i]?) = WC.map some) (hRl : isR.all (fun i => Nat.blt i ws0.length) = true) (hn1 : va_nd isC = true) (hn2 : va_nd isR = true) (hdis : ∀ i ∈ isR, i ∉ isC)
    (hl : ls.size = nL) (hn : As.length = n) (hst : st = As.reverse ++ rest) (hW : (rest.map fun v => v.category).sum ≤ 8) (hdg : decode cc pc = .ok (.invokestatic index, 3)) (hf : cells + mc ≤ R.cells ∧ slots + ms ≤ R.slots)
    (kk : ∀ (r : Int32) (u : S) (H1 : Heap) (locs1 : List Loc), post r u → va_P D vwCl ((pickW ws0 isR ++ W1 u) ++ pl) H1 → va_D A ((pickW ws0 isR ++ W1 u) ++ pl) → va_S A s.heap H1 locs1 → W p l e R s m args below meth c H1 locs1 (cells + mc) (slots + ms) Q (F0 m (pc + 3) ls (.int r :: rest))) : W p l e R s m args below meth c H locs cells slots Q (F0 m pc ls st) := by
  subst hst
  have hPX := va_P_left hP
  have hDX := va_D_left hD
  have hF := va_free hDX hS hA isC hC
  refine va_calli (va_runS (As := As) (rest := rest) F hM cw ⟨pre_blind, preC hK hPX hDX isC hC hn1⟩ rfl hn hl rfl (lv_room hW) hdg hf) hS (fun q _ h => hF q h) hF (fun r u t H1 locs1 ht hvm hw hB hz1 hk1 hS1 => ?_)
  obtain ⟨hP1, hK1, hD1⟩ := hB
  rw [ht] at hP1
  obtain ⟨hP2, hD2⟩ := joinQ' hP hD hS hA isC isR hC hRl hn2 hdis hk1 hP1 hD1
  exact kk r u H1 locs1 hw hP2 hD2 hS1
theorem fI_v {post : S → Prop} {As : List Value} (F : CallFix p m c cc nL s args Ts own) (hM : Cv l y ws rm D cI cZ cM (.ref b :: As) WC H.size post W1 mc ms) (cw : CallB R s args own index y bytes maxL none ws rm mc ms n ∧ y.name = "<init>" ∧ (Cond.instanceMethod y).before args s = true)
    (hK : va_K D vwCl (ty3 cI cZ cM) s) (hP : va_P D vwCl (ws0 ++ pl) H) (hD : va_D A (ws0 ++ pl)) (hS : va_S A s.heap H locs) (hA : ∀ q : Nat, s.heap.size ≤ q → A q) (isC isR : List Nat) (hC : isC.map (fun i => ws0[i]?) = WC.map some) (hRl : isR.all (fun i => Nat.blt i ws0.length) = true) (hn1 : va_nd isC = true) (hn2 : va_nd isR = true) (hdis : ∀ i ∈ isR, i ∉ isC)
    (hl : ls.size = nL) (hn : As.length = n) (hst : st = As.reverse ++ .ref b :: rest) (hW : (rest.map fun v => v.category).sum ≤ 8) (hdg : decode cc pc = .ok (.invokespecial index, 3)) (hf : cells + mc ≤ R.cells ∧ slots + ms ≤ R.slots)
    (kk : ∀ (u : S) (H1 : Heap) (locs1 : List Loc), post u → va_P D vwCl ((pickW ws0 isR ++ W1 u) ++ pl) H1 → va_D A ((pickW ws0 isR ++ W1 u) ++ pl) → va_S A s.heap H1 locs1 → W p l e R s m args below meth c H1 locs1 (cells + mc) (slots + ms) Q (F0 m (pc + 3) ls rest)) : W p l e R s m args below meth c H locs cells slots Q (F0 m pc ls st) := by
  subst hst
  have hPX := va_P_left hP
  have hDX := va_D_left hD
  have hF := va_free hDX hS hA isC hC
  refine va_callv (va_runI (As := As) (rest := rest) F hM cw ⟨pre_blind, preC hK hPX hDX isC hC hn1⟩ rfl hn hl rfl (lv_room hW) hdg hf) hS (fun q _ h => hF q h) hF (fun u t H1 locs1 ht hvm hw hB hz1 hk1 hS1 => ?_)
  obtain ⟨hP1, hK1, hD1⟩ := hB
  rw [ht] at hP1
  obtain ⟨hP2, hD2⟩ := joinQ' hP hD hS hA isC isR hC hRl hn2 hdis hk1 hP1 hD1
  exact kk u H1 locs1 hw hP2 hD2 hS1
end CG
theorem keeps_mid {L1 L2 : List Mom} {M M' : Mom} (h : M'.1.1 = M.1.1) : Keeps (L1 ++ M :: L2) (L1 ++ M' :: L2) := by
  intro X hX
  rcases List.mem_append.mp hX with h1 | h1
  · exact ⟨X, List.mem_append_left _ h1, rfl⟩
  · rcases List.mem_cons.mp h1 with h2 | h2
    · subst h2; exact ⟨M', List.mem_append_right _ List.mem_cons_self, h⟩
    · exact ⟨X, List.mem_append_right _ (List.mem_cons_of_mem _ h2), rfl⟩
theorem msOk_mid {L1 L2 : List Mom} {M M' : Mom} (h : MsOk (L1 ++ M :: L2)) (hM : MOk M') : MsOk (L1 ++ M' :: L2) := by
  intro X hX
  rcases List.mem_append.mp hX with h1 | h1
  · exact h X (List.mem_append_left _ h1)
  · rcases List.mem_cons.mp h1 with h2 | h2
    · subst h2; exact hM
    · exact h X (List.mem_append_right _ (List.mem_cons_of_mem _ h2))
theorem keeps_midE {L L1 L2 : List Mom} {M M' : Mom} (e : L = L1 ++ M :: L2) (h : M'.1.1 = M.1.1) : Keeps L (L1 ++ M' :: L2) := by rw [e]; exact keeps_mid h
theorem msOk_midE {L L1 L2 : List Mom} {M M' : Mom} (e : L = L1 ++ M :: L2) (h : MsOk L) (hM : MOk M') : MsOk (L1 ++ M' :: L2) := by rw [e] at h; exact msOk_mid h hM
theorem keeps_rf {L : List Mom} : Keeps L L := fun M h => ⟨M, h, rfl⟩
theorem Keeps.trans {L1 L2 L3 : List Mom} (h : Keeps L1 L2) (g : Keeps L2 L3) : Keeps L1 L3 := fun M hM => by
  obtain ⟨M2, h2, e2⟩ := h M hM
  obtain ⟨M3, h3, e3⟩ := g M2 h2
  exact ⟨M3, h3, e3.trans e2⟩
theorem keeps_end {L : List Mom} {M : Mom} : Keeps L (L ++ [M]) := fun X h => ⟨X, List.mem_append_left _ h, rfl⟩
theorem msOk_end {L : List Mom} {M : Mom} (h : MsOk L) (hM : MOk M) : MsOk (L ++ [M]) := by
  intro X hX
  rcases List.mem_append.mp hX with h1 | h1
  · exact h X h1
  · rw [List.mem_singleton.mp h1]; exact hM
theorem inPool_new {K i : Nat} {f : Nat → Option Nat} {L : List Mom} {M : Mom} (h : InPool K f L) : InPool K (va_up f i (some M.1.1)) (L ++ [M]) := by
  intro j a hj e
  by_cases q : j = i
  · subst q
    have e2 : some M.1.1 = some a := by simpa [va_up] using e
    exact ⟨M, List.mem_append_right _ (List.mem_singleton.mpr rfl), Option.some.inj e2⟩
  · have e2 : f j = some a := by simpa [va_up, q] using e
    obtain ⟨X, hX, h1⟩ := h j a hj e2
    exact ⟨X, List.mem_append_left _ hX, h1⟩

set_option maxHeartbeats 600000 in
set_option maxRecDepth 100000 in
theorem c_X1_init (l : Launch) (D : va_G) (cI cZ cM : ClassId) (h0 : Nat) (ln : Nat) (sz : Nat)  : Cv l yX1_init wsX1_init ({ frames := 1, cells := 3, slots := 19, locals := 12 } : Room) D cI cZ cM [.ref h0, .ref ln] [(h0, .inr (1, [.null, .int 0, .int 0, .int 0, .int 0, .null, .null, .null]))] sz (fun (u : Nat × Nat × Nat) => True) (fun u => [(h0, .inr (1, [.ref ln, .int 0, .int 0, .int 0, .int 0, .ref u.1, .ref u.2.1, .ref u.2.2])), (u.1, .inl (cI, 5, .inl (fun _ => 0))), (u.2.1, .inl (cI, 7, .inl (fun _ => 0))), (u.2.2, .inl (cI, 7, .inl (fun _ => 0)))]) 3 19 := by
  refine begins (l := l) (y := yX1_init) (ws := wsX1_init) (av := [.ref h0, .ref ln]) (Qc := fun A => va_Qv (fun (u : Nat × Nat × Nat) => True) (fun u => Wd D cI cZ cM A ((fun u => [(h0, .inr (1, [.ref ln, .int 0, .int 0, .int 0, .int 0, .ref u.1, .ref u.2.1, .ref u.2.2])), (u.1, .inl (cI, 5, .inl (fun _ => 0))), (u.2.1, .inl (cI, 7, .inl (fun _ => 0))), (u.2.2, .inl (cI, 7, .inl (fun _ => 0)))]) u)) A) cX1_init 2 none (by decide) rfl (Nat.le_of_ble_eq_true rfl) ?_
  intro p e s m args below meth c R Q A ls hBd hR hQ hA hS hK hP hD hl
  obtain ⟨hx, hb, hr, hts, hown, hlocks, hin, hml⟩ := hBd
  have hl : lv_has ls 2 [(0, .ref h0), (1, .ref ln)] := hl
  have iX1 : ∀ w ∈ wsX10, w ∈ wsX1_init := fun _ h => List.mem_cons_of_mem _ (List.mem_append_right _ h)
  refine lv_aload_n hx hb dX1_init_0 rfl (lv_at hl 0 rfl) ?_
  refine W.objInit hx hb hown (hts (.methodLink RX1 3 objectInit) (List.mem_of_getElem? (i := 1) rfl)) (hts (.instanceMethod objectInit) (List.mem_of_getElem? (i := 2) rfl)) (hts (.code objectInit ⟨#[0xb1]⟩ 1 none) (List.mem_of_getElem? (i := 3) rfl)) rfl (by rw [hml]; exact hl.1) rfl dX1_init_1 (by rw [hR]; exact Nat.le_of_ble_eq_true rfl) (by rw [hR]; exact Nat.le_of_ble_eq_true rfl) ?_
  refine W.eq (g2 := F0 m 4 ls []) rfl ?_
  refine lv_aload_n hx hb dX1_init_4 rfl (lv_at hl 0 rfl) ?_
  refine lv_iconst (v := 0) hx hb dX1_init_5 (by decide) ?_
  refine va_put (D := D) (ci := 1) (v := .int 0) (ty := .int) (C := RX1) (T := TX1) (N := 8) hx hb hts iX1 tyX1 tyX1_ok nmX1 hown hK hP hD hS 0 rfl rfl 1 (by decide) (hts (.fieldLink RX1 9 "PunchedTicket$Moment" "day" "I") (List.mem_of_getElem? (i := 4) rfl)) (fun _ h9 => h9) rfl (by decide +kernel) rfl rfl (Nat.le_of_ble_eq_true rfl) dX1_init_6 (fun H locs hP hD hS => ?_)
  have hP : va_P D vwCl [(h0, .inr (1, [.null, .int 0, .int 0, .int 0, .int 0, .null, .null, .null]))] H := hP
  have hD : va_D A [(h0, .inr (1, [.null, .int 0, .int 0, .int 0, .int 0, .null, .null, .null]))] := hD
  refine lv_aload_n hx hb dX1_init_9 rfl (lv_at hl 0 rfl) ?_
  refine lv_iconst (v := 0) hx hb dX1_init_10 (by decide) ?_
  refine va_put (D := D) (ci := 1) (v := .int 0) (ty := .int) (C := RX1) (T := TX1) (N := 8) hx hb hts iX1 tyX1 tyX1_ok nmX1 hown hK hP hD hS 0 rfl rfl 2 (by decide) (hts (.fieldLink RX1 15 "PunchedTicket$Moment" "tickets" "I") (List.mem_of_getElem? (i := 5) rfl)) (fun _ h9 => h9) rfl (by decide +kernel) rfl rfl (Nat.le_of_ble_eq_true rfl) dX1_init_11 (fun H locs hP hD hS => ?_)
  have hP : va_P D vwCl [(h0, .inr (1, [.null, .int 0, .int 0, .int 0, .int 0, .null, .null, .null]))] H := hP
  have hD : va_D A [(h0, .inr (1, [.null, .int 0, .int 0, .int 0, .int 0, .null, .null, .null]))] := hD
  refine lv_aload_n hx hb dX1_init_14 rfl (lv_at hl 0 rfl) ?_
  refine lv_iconst (v := 0) hx hb dX1_init_15 (by decide) ?_
  refine va_put (D := D) (ci := 1) (v := .int 0) (ty := .int) (C := RX1) (T := TX1) (N := 8) hx hb hts iX1 tyX1 tyX1_ok nmX1 hown hK hP hD hS 0 rfl rfl 3 (by decide) (hts (.fieldLink RX1 18 "PunchedTicket$Moment" "returns" "I") (List.mem_of_getElem? (i := 6) rfl)) (fun _ h9 => h9) rfl (by decide +kernel) rfl rfl (Nat.le_of_ble_eq_true rfl) dX1_init_16 (fun H locs hP hD hS => ?_)
  have hP : va_P D vwCl [(h0, .inr (1, [.null, .int 0, .int 0, .int 0, .int 0, .null, .null, .null]))] H := hP
  have hD : va_D A [(h0, .inr (1, [.null, .int 0, .int 0, .int 0, .int 0, .null, .null, .null]))] := hD
  refine lv_aload_n hx hb dX1_init_19 rfl (lv_at hl 0 rfl) ?_
  refine lv_iconst (v := 0) hx hb dX1_init_20 (by decide) ?_
  refine va_put (D := D) (ci := 1) (v := .int 0) (ty := .int) (C := RX1) (T := TX1) (N := 8) hx hb hts iX1 tyX1 tyX1_ok nmX1 hown hK hP hD hS 0 rfl rfl 4 (by decide) (hts (.fieldLink RX1 21 "PunchedTicket$Moment" "gone" "I") (List.mem_of_getElem? (i := 7) rfl)) (fun _ h9 => h9) rfl (by decide +kernel) rfl rfl (Nat.le_of_ble_eq_true rfl) dX1_init_21 (fun H locs hP hD hS => ?_)
  have hP : va_P D vwCl [(h0, .inr (1, [.null, .int 0, .int 0, .int 0, .int 0, .null, .null, .null]))] H := hP
  have hD : va_D A [(h0, .inr (1, [.null, .int 0, .int 0, .int 0, .int 0, .null, .null, .null]))] := hD
  refine lv_aload_n hx hb dX1_init_24 rfl (lv_at hl 0 rfl) ?_
  refine lv_iconst (v := 5) hx hb dX1_init_25 (by decide) ?_
  refine newI hx hb (hts (.arrayClass .int) (List.mem_of_getElem? (i := 8) rfl)) hK hP hD hS hA 5 (by decide) (by decide) (by decide) (by rw [hR]; exact Nat.le_of_ble_eq_true rfl) (by rw [hR]; exact Nat.le_of_ble_eq_true rfl) dX1_init_26 (fun q_1 H hP hD hS => ?_)
  have hP : va_P D vwCl [(h0, .inr (1, [.null, .int 0, .int 0, .int 0, .int 0, .null, .null, .null])), (q_1, .inl (cI, 5, .inl (fun _ => 0)))] H := hP
  have hD : va_D A [(h0, .inr (1, [.null, .int 0, .int 0, .int 0, .int 0, .null, .null, .null])), (q_1, .inl (cI, 5, .inl (fun _ => 0)))] := hD
  refine W.widen (k := 1) (n := 5) (by omega) (by omega) ?_
  refine va_putF (D := D) (ci := 1) (v := .ref q_1) (ty := (.array .int)) (C := RX1) (T := TX1) (N := 8) hx hb hts iX1 tyX1 tyX1_ok nmX1 hown hK hP hD hS 0 rfl rfl 5 (by decide) (hts (.fieldLink RX1 24 "PunchedTicket$Moment" "at" "[I") (List.mem_of_getElem? (i := 9) rfl)) (fun _ h9 => h9) rfl hin rfl (by decide +kernel) rfl rfl (Nat.le_of_ble_eq_true rfl) dX1_init_28 (fun H locs hP hD hS => ?_)
  have hP : va_P D vwCl [(h0, .inr (1, [.null, .int 0, .int 0, .int 0, .int 0, .ref q_1, .null, .null])), (q_1, .inl (cI, 5, .inl (fun _ => 0)))] H := hP
  have hD : va_D A [(h0, .inr (1, [.null, .int 0, .int 0, .int 0, .int 0, .ref q_1, .null, .null])), (q_1, .inl (cI, 5, .inl (fun _ => 0)))] := hD
  refine lv_aload_n hx hb dX1_init_31 rfl (lv_at hl 0 rfl) ?_
  refine lv_bipush (v := 7) hx hb dX1_init_32 (by decide) ?_
  refine newI hx hb (hts (.arrayClass .int) (List.mem_of_getElem? (i := 8) rfl)) hK hP hD hS hA 7 (by decide) (by decide) (by decide) (by rw [hR]; exact Nat.le_of_ble_eq_true rfl) (by rw [hR]; exact Nat.le_of_ble_eq_true rfl) dX1_init_34 (fun q_2 H hP hD hS => ?_)
  have hP : va_P D vwCl [(h0, .inr (1, [.null, .int 0, .int 0, .int 0, .int 0, .ref q_1, .null, .null])), (q_1, .inl (cI, 5, .inl (fun _ => 0))), (q_2, .inl (cI, 7, .inl (fun _ => 0)))] H := hP
  have hD : va_D A [(h0, .inr (1, [.null, .int 0, .int 0, .int 0, .int 0, .ref q_1, .null, .null])), (q_1, .inl (cI, 5, .inl (fun _ => 0))), (q_2, .inl (cI, 7, .inl (fun _ => 0)))] := hD
  refine W.widen (k := 2) (n := 12) (by omega) (by omega) ?_
  refine va_putF (D := D) (ci := 1) (v := .ref q_2) (ty := (.array .int)) (C := RX1) (T := TX1) (N := 8) hx hb hts iX1 tyX1 tyX1_ok nmX1 hown hK hP hD hS 0 rfl rfl 6 (by decide) (hts (.fieldLink RX1 28 "PunchedTicket$Moment" "forDay" "[I") (List.mem_of_getElem? (i := 10) rfl)) (fun _ h9 => h9) rfl hin rfl (by decide +kernel) rfl rfl (Nat.le_of_ble_eq_true rfl) dX1_init_36 (fun H locs hP hD hS => ?_)
  have hP : va_P D vwCl [(h0, .inr (1, [.null, .int 0, .int 0, .int 0, .int 0, .ref q_1, .ref q_2, .null])), (q_1, .inl (cI, 5, .inl (fun _ => 0))), (q_2, .inl (cI, 7, .inl (fun _ => 0)))] H := hP
  have hD : va_D A [(h0, .inr (1, [.null, .int 0, .int 0, .int 0, .int 0, .ref q_1, .ref q_2, .null])), (q_1, .inl (cI, 5, .inl (fun _ => 0))), (q_2, .inl (cI, 7, .inl (fun _ => 0)))] := hD
  refine lv_aload_n hx hb dX1_init_39 rfl (lv_at hl 0 rfl) ?_
  refine lv_bipush (v := 7) hx hb dX1_init_40 (by decide) ?_
  refine newI hx hb (hts (.arrayClass .int) (List.mem_of_getElem? (i := 8) rfl)) hK hP hD hS hA 7 (by decide) (by decide) (by decide) (by rw [hR]; exact Nat.le_of_ble_eq_true rfl) (by rw [hR]; exact Nat.le_of_ble_eq_true rfl) dX1_init_42 (fun q_3 H hP hD hS => ?_)
  have hP : va_P D vwCl [(h0, .inr (1, [.null, .int 0, .int 0, .int 0, .int 0, .ref q_1, .ref q_2, .null])), (q_1, .inl (cI, 5, .inl (fun _ => 0))), (q_2, .inl (cI, 7, .inl (fun _ => 0))), (q_3, .inl (cI, 7, .inl (fun _ => 0)))] H := hP
  have hD : va_D A [(h0, .inr (1, [.null, .int 0, .int 0, .int 0, .int 0, .ref q_1, .ref q_2, .null])), (q_1, .inl (cI, 5, .inl (fun _ => 0))), (q_2, .inl (cI, 7, .inl (fun _ => 0))), (q_3, .inl (cI, 7, .inl (fun _ => 0)))] := hD
  refine W.widen (k := 3) (n := 19) (by omega) (by omega) ?_
  refine va_putF (D := D) (ci := 1) (v := .ref q_3) (ty := (.array .int)) (C := RX1) (T := TX1) (N := 8) hx hb hts iX1 tyX1 tyX1_ok nmX1 hown hK hP hD hS 0 rfl rfl 7 (by decide) (hts (.fieldLink RX1 31 "PunchedTicket$Moment" "holder" "[I") (List.mem_of_getElem? (i := 11) rfl)) (fun _ h9 => h9) rfl hin rfl (by decide +kernel) rfl rfl (Nat.le_of_ble_eq_true rfl) dX1_init_44 (fun H locs hP hD hS => ?_)
  have hP : va_P D vwCl [(h0, .inr (1, [.null, .int 0, .int 0, .int 0, .int 0, .ref q_1, .ref q_2, .ref q_3])), (q_1, .inl (cI, 5, .inl (fun _ => 0))), (q_2, .inl (cI, 7, .inl (fun _ => 0))), (q_3, .inl (cI, 7, .inl (fun _ => 0)))] H := hP
  have hD : va_D A [(h0, .inr (1, [.null, .int 0, .int 0, .int 0, .int 0, .ref q_1, .ref q_2, .ref q_3])), (q_1, .inl (cI, 5, .inl (fun _ => 0))), (q_2, .inl (cI, 7, .inl (fun _ => 0))), (q_3, .inl (cI, 7, .inl (fun _ => 0)))] := hD
  refine lv_aload_n hx hb dX1_init_47 rfl (lv_at hl 0 rfl) ?_
  refine lv_aload_n hx hb dX1_init_48 rfl (lv_at hl 1 rfl) ?_
  refine va_putF (D := D) (ci := 1) (v := .ref ln) (ty := (.object "PunchedTicket$Line")) (C := RX1) (T := TX1) (N := 8) hx hb hts iX1 tyX1 tyX1_ok nmX1 hown hK hP hD hS 0 rfl rfl 0 (by decide) (hts (.fieldLink RX1 34 "PunchedTicket$Moment" "line" "LPunchedTicket$Line;") (List.mem_of_getElem? (i := 12) rfl)) (fun _ h9 => h9) rfl hin rfl (by decide +kernel) rfl rfl (Nat.le_of_ble_eq_true rfl) dX1_init_49 (fun H locs hP hD hS => ?_)
  have hP : va_P D vwCl [(h0, .inr (1, [.ref ln, .int 0, .int 0, .int 0, .int 0, .ref q_1, .ref q_2, .ref q_3])), (q_1, .inl (cI, 5, .inl (fun _ => 0))), (q_2, .inl (cI, 7, .inl (fun _ => 0))), (q_3, .inl (cI, 7, .inl (fun _ => 0)))] H := hP
  have hD : va_D A [(h0, .inr (1, [.ref ln, .int 0, .int 0, .int 0, .int 0, .ref q_1, .ref q_2, .ref q_3])), (q_1, .inl (cI, 5, .inl (fun _ => 0))), (q_2, .inl (cI, 7, .inl (fun _ => 0))), (q_3, .inl (cI, 7, .inl (fun _ => 0)))] := hD
  exact ret_v (post := (fun (u : Nat × Nat × Nat) => True)) (W1 := (fun u => [(h0, .inr (1, [.ref ln, .int 0, .int 0, .int 0, .int 0, .ref u.1, .ref u.2.1, .ref u.2.2])), (u.1, .inl (cI, 5, .inl (fun _ => 0))), (u.2.1, .inl (cI, 7, .inl (fun _ => 0))), (u.2.2, .inl (cI, 7, .inl (fun _ => 0)))])) (q_1, q_2, q_3) hx hb hr hlocks hQ hK hP hD hS ⟨by decide, by decide⟩ dX1_init_52 trivial

set_option maxHeartbeats 600000 in
set_option maxRecDepth 100000 in
theorem c_X3_keepIn14 (l : Launch) (D : va_G) (cI cZ cM : ClassId) (h0 : Nat) (ms : Nat) (n : Int32) (tx : Nat) (le : Int32) (td : Nat) (dr : Nat) (nw : Nat) (ac : Nat) (fa : Int32) (an : Int32) (kp : Nat) (ks : Int32) (sp : Nat) (ss : Nat) (sy : Nat) (sc : Int32) (sd : Int64) (tr : Nat) (ia : Nat) (Fms : Nat → Option Nat) (ln : Nat) (md : Int32) (mt : Int32) (mr : Int32) (mg : Int32) (mat : Nat) (mfd : Nat) (mhd : Nat) (mFat : Nat → Int32) (mFfd : Nat → Int32) (mFhd : Nat → Int32) (L : List Mom) (sz : Nat) (hPool : InPool 14 Fms L) (hMs : MsOk L) (h_n : 0 ≤ n.toInt ∧ n.toInt ≤ 13) (h_md : 0 ≤ md.toInt ∧ md.toInt ≤ 10) (h_mt : 0 ≤ mt.toInt ∧ mt.toInt ≤ 6) : Cv l yX3_keepIn wsX3_keepIn ({ frames := 2, cells := 4, slots := 27, locals := 47 } : Room) D cI cZ cM [.ref h0, .ref ms, .int n] ([(h0, .inr (3, [.ref tx, .int le, .ref td, .ref dr, .ref nw, .ref ac, .int fa, .int an, .ref kp, .int ks, .ref sp, .ref ss, .ref sy, .int sc, .long sd, .ref tr, .ref ia])), (ms, .inl (cM, 14, .inr (.inr (.inr (.inr Fms))))), (nw, .inr (1, [.ref ln, .int md, .int mt, .int mr, .int mg, .ref mat, .ref mfd, .ref mhd])), (mat, .inl (cI, 5, .inl mFat)), (mfd, .inl (cI, 7, .inl mFfd)), (mhd, .inl (cI, 7, .inl mFhd))] ++ plW cI L) sz (fun (u : (Nat → Option Nat) × (List Mom)) => InPool 14 u.1 u.2 ∧ Keeps L u.2 ∧ MsOk u.2) (fun u => ([(h0, .inr (3, [.ref tx, .int le, .ref td, .ref dr, .ref nw, .ref ac, .int fa, .int an, .ref kp, .int ks, .ref sp, .ref ss, .ref sy, .int sc, .long sd, .ref tr, .ref ia])), (ms, .inl (cM, 14, .inr (.inr (.inr (.inr u.1))))), (nw, .inr (1, [.ref ln, .int md, .int mt, .int mr, .int mg, .ref mat, .ref mfd, .ref mhd])), (mat, .inl (cI, 5, .inl mFat)), (mfd, .inl (cI, 7, .inl mFfd)), (mhd, .inl (cI, 7, .inl mFhd))] ++ plW cI u.2)) 4 27 := by
  refine begins (l := l) (y := yX3_keepIn) (ws := wsX3_keepIn) (av := [.ref h0, .ref ms, .int n]) (Qc := fun A => va_Qv (fun (u : (Nat → Option Nat) × (List Mom)) => InPool 14 u.1 u.2 ∧ Keeps L u.2 ∧ MsOk u.2) (fun u => Wd D cI cZ cM A ((fun u => ([(h0, .inr (3, [.ref tx, .int le, .ref td, .ref dr, .ref nw, .ref ac, .int fa, .int an, .ref kp, .int ks, .ref sp, .ref ss, .ref sy, .int sc, .long sd, .ref tr, .ref ia])), (ms, .inl (cM, 14, .inr (.inr (.inr (.inr u.1))))), (nw, .inr (1, [.ref ln, .int md, .int mt, .int mr, .int mg, .ref mat, .ref mfd, .ref mhd])), (mat, .inl (cI, 5, .inl mFat)), (mfd, .inl (cI, 7, .inl mFfd)), (mhd, .inl (cI, 7, .inl mFhd))] ++ plW cI u.2)) u)) A) cX3_keepIn 4 none (by decide) rfl (Nat.le_of_ble_eq_true rfl) ?_
  intro p e s m args below meth c R Q A ls hBd hR hQ hA hS hK hP hD hl
  obtain ⟨hx, hb, hr, hts, hown, hlocks, hin, hml⟩ := hBd
  have hl : lv_has ls 4 [(0, .ref h0), (1, .ref ms), (2, .int n)] := hl
  have iX1 : ∀ w ∈ wsX10, w ∈ wsX3_keepIn := fun _ h => List.mem_cons_of_mem _ (List.mem_append_left _ (List.mem_append_right _ h))
  have iX3 : ∀ w ∈ wsX30, w ∈ wsX3_keepIn := fun _ h => List.mem_cons_of_mem _ (List.mem_append_right _ h)
  obtain ⟨h_na, h_nb⟩ := h_n
  obtain ⟨h_mda, h_mdb⟩ := h_md
  obtain ⟨h_mta, h_mtb⟩ := h_mt
  refine lv_aload_n hx hb dX3_keepIn_0 rfl (lv_at hl 1 rfl) ?_
  refine lv_iload_n hx hb dX3_keepIn_1 rfl (lv_at hl 2 rfl) ?_
  refine va_aldq hx hb hK hP 1 2 rfl rfl (vp_in_iff.mpr ⟨by omega, by omega⟩) dX3_keepIn_2 ?_
  rcases hq_1 : Fms (n : Int32).toNatClampNeg with _ | q_2
  · skip
    refine W.eq (g2 := F0 m 3 ls [.null]) rfl ?_
    refine lv_astore_nN (lv' := [(3, .null), (0, .ref h0), (1, .ref ms), (2, .int n)]) hx hb dX3_keepIn_3 rfl hl (by decide) rfl (fun ls hl => ?_)
    refine lv_aload_nN hx hb dX3_keepIn_4 rfl (lv_at hl 0 rfl) ?_
    refine lv_ifnonnullN hx hb dX3_keepIn_5 ?_
    refine va_new (ci := 1) (fs := [.null, .int 0, .int 0, .int 0, .int 0, .null, .null, .null]) (C := RX1) (T := TX1) (N := 8) hx hb hts iX1 tyX1 tyX1_ok hown (hts (.classLink RX3 27 RX1) (List.mem_of_getElem? (i := 1) rfl)) (hts (.instantiable RX1 8) (List.mem_of_getElem? (i := 2) rfl)) (hts (.initialized RX1) (List.mem_of_getElem? (i := 3) rfl)) hK hP hD hS hA rfl (fun j hj => by rcases (show j = 0 ∨ j = 1 ∨ j = 2 ∨ j = 3 ∨ j = 4 ∨ j = 5 ∨ j = 6 ∨ j = 7 by omega) with rfl | rfl | rfl | rfl | rfl | rfl | rfl | rfl <;> rfl) (by rw [hR]; exact Nat.le_of_ble_eq_true rfl) (by rw [hR]; exact Nat.le_of_ble_eq_true rfl) dX3_keepIn_8 (fun q_3 H hP hD hS => ?_)
    have hP := va_P_perm hP (pm2 _ _ _)
    have hD := va_D_perm hD (pm2 _ _ _)
    have hP : va_P D vwCl ([(h0, .inr (3, [.ref tx, .int le, .ref td, .ref dr, .ref nw, .ref ac, .int fa, .int an, .ref kp, .int ks, .ref sp, .ref ss, .ref sy, .int sc, .long sd, .ref tr, .ref ia])), (ms, .inl (cM, 14, .inr (.inr (.inr (.inr Fms))))), (nw, .inr (1, [.ref ln, .int md, .int mt, .int mr, .int mg, .ref mat, .ref mfd, .ref mhd])), (mat, .inl (cI, 5, .inl mFat)), (mfd, .inl (cI, 7, .inl mFfd)), (mhd, .inl (cI, 7, .inl mFhd)), (q_3, .inr (1, [.null, .int 0, .int 0, .int 0, .int 0, .null, .null, .null]))] ++ plW cI L) H := hP
    have hD : va_D A ([(h0, .inr (3, [.ref tx, .int le, .ref td, .ref dr, .ref nw, .ref ac, .int fa, .int an, .ref kp, .int ks, .ref sp, .ref ss, .ref sy, .int sc, .long sd, .ref tr, .ref ia])), (ms, .inl (cM, 14, .inr (.inr (.inr (.inr Fms))))), (nw, .inr (1, [.ref ln, .int md, .int mt, .int mr, .int mg, .ref mat, .ref mfd, .ref mhd])), (mat, .inl (cI, 5, .inl mFat)), (mfd, .inl (cI, 7, .inl mFfd)), (mhd, .inl (cI, 7, .inl mFhd)), (q_3, .inr (1, [.null, .int 0, .int 0, .int 0, .int 0, .null, .null, .null]))] ++ plW cI L) := hD
    refine W.widen (k := 1) (n := 8) (by omega) (by omega) ?_
    refine lv_dup hx hb dX3_keepIn_11 rfl ?_
    refine lv_aload_n hx hb dX3_keepIn_12 rfl (lv_at hl 1 rfl) ?_
    refine va_get (D := D) (ci := 3) (v := .ref td) (C := RX3) (T := TX3) (N := 17) hx hb hts iX3 hown hK hP 0 rfl rfl 2 (by decide) (hts (.fieldLink RX3 20 "PunchedTicket" "told" "LPunchedTicket$Line;") (List.mem_of_getElem? (i := 4) rfl)) (fun _ h9 => h9) rfl dX3_keepIn_13 ?_
    refine fI_v (As := [.ref td]) (rest := [.ref q_3]) ⟨hx, hb, hml, hown, hts⟩ (c_X1_init l D cI cZ cM q_3 td _ ) (cwI 1 hts gX3_keepIn_X1_init rfl rfl rfl (hts (.initialized RX1) (List.mem_of_getElem? (i := 3) rfl)) (hts (.methodLink RX3 29 yX1_init) (List.mem_of_getElem? (i := 6) rfl)) (hts (.instanceMethod yX1_init) (List.mem_of_getElem? (i := 7) rfl)) rfl (by decide +kernel) ⟨by rw [hR]; decide, by rw [hR]; decide⟩) hK hP hD hS hA [6] [0, 1, 2, 3, 4, 5] rfl rfl (by decide) (by decide) (by decide) hl.1 rfl rfl (Nat.le_of_ble_eq_true rfl) dX3_keepIn_16 ⟨by rw [hR]; decide, by rw [hR]; decide⟩ (fun u_8 H locs hw hP hD hS => ?_)
    obtain ⟨nat_4, nfd_5, nhd_6⟩ := u_8
    have hP : va_P D vwCl ([(h0, .inr (3, [.ref tx, .int le, .ref td, .ref dr, .ref nw, .ref ac, .int fa, .int an, .ref kp, .int ks, .ref sp, .ref ss, .ref sy, .int sc, .long sd, .ref tr, .ref ia])), (ms, .inl (cM, 14, .inr (.inr (.inr (.inr Fms))))), (nw, .inr (1, [.ref ln, .int md, .int mt, .int mr, .int mg, .ref mat, .ref mfd, .ref mhd])), (mat, .inl (cI, 5, .inl mFat)), (mfd, .inl (cI, 7, .inl mFfd)), (mhd, .inl (cI, 7, .inl mFhd)), (q_3, .inr (1, [.ref td, .int 0, .int 0, .int 0, .int 0, .ref nat_4, .ref nfd_5, .ref nhd_6])), (nat_4, .inl (cI, 5, .inl (fun _ => 0))), (nfd_5, .inl (cI, 7, .inl (fun _ => 0))), (nhd_6, .inl (cI, 7, .inl (fun _ => 0)))] ++ plW cI L) H := P_subF hP [0, 1, 2, 3, 4, 5, 6, 7, 8, 9] rfl
    have hD : va_D A ([(h0, .inr (3, [.ref tx, .int le, .ref td, .ref dr, .ref nw, .ref ac, .int fa, .int an, .ref kp, .int ks, .ref sp, .ref ss, .ref sy, .int sc, .long sd, .ref tr, .ref ia])), (ms, .inl (cM, 14, .inr (.inr (.inr (.inr Fms))))), (nw, .inr (1, [.ref ln, .int md, .int mt, .int mr, .int mg, .ref mat, .ref mfd, .ref mhd])), (mat, .inl (cI, 5, .inl mFat)), (mfd, .inl (cI, 7, .inl mFfd)), (mhd, .inl (cI, 7, .inl mFhd)), (q_3, .inr (1, [.ref td, .int 0, .int 0, .int 0, .int 0, .ref nat_4, .ref nfd_5, .ref nhd_6])), (nat_4, .inl (cI, 5, .inl (fun _ => 0))), (nfd_5, .inl (cI, 7, .inl (fun _ => 0))), (nhd_6, .inl (cI, 7, .inl (fun _ => 0)))] ++ plW cI L) := D_subF hD [0, 1, 2, 3, 4, 5, 6, 7, 8, 9] (by decide) rfl
    refine W.widen (k := 4) (n := 27) (by omega) (by omega) ?_
    refine lv_astore_n (lv' := [(3, .ref q_3), (0, .ref h0), (1, .ref ms), (2, .int n)]) hx hb dX3_keepIn_19 rfl hl (by decide) rfl (fun ls hl => ?_)
    refine lv_aload_n hx hb dX3_keepIn_20 rfl (lv_at hl 2 rfl) ?_
    refine lv_iload_n hx hb dX3_keepIn_21 rfl (lv_at hl 3 rfl) ?_
    refine lv_aload_n hx hb dX3_keepIn_22 rfl (lv_at hl 0 rfl) ?_
    refine va_astq hx hb hK hP hD hS 1 2 6 1 rfl rfl rfl rfl (vp_in_iff.mpr ⟨by omega, by omega⟩) dX3_keepIn_23 (fun H locs hP hD hS => ?_)
    obtain ⟨f_9, ef_9⟩ : ∃ g : Nat → Option Nat, va_up Fms (n : Int32).toNatClampNeg (some q_3) = g := ⟨_, rfl⟩
    rw [ef_9] at hP hD
    have hP : va_P D vwCl ([(h0, .inr (3, [.ref tx, .int le, .ref td, .ref dr, .ref nw, .ref ac, .int fa, .int an, .ref kp, .int ks, .ref sp, .ref ss, .ref sy, .int sc, .long sd, .ref tr, .ref ia])), (ms, .inl (cM, 14, .inr (.inr (.inr (.inr f_9))))), (nw, .inr (1, [.ref ln, .int md, .int mt, .int mr, .int mg, .ref mat, .ref mfd, .ref mhd])), (mat, .inl (cI, 5, .inl mFat)), (mfd, .inl (cI, 7, .inl mFfd)), (mhd, .inl (cI, 7, .inl mFhd)), (q_3, .inr (1, [.ref td, .int 0, .int 0, .int 0, .int 0, .ref nat_4, .ref nfd_5, .ref nhd_6])), (nat_4, .inl (cI, 5, .inl (fun _ => 0))), (nfd_5, .inl (cI, 7, .inl (fun _ => 0))), (nhd_6, .inl (cI, 7, .inl (fun _ => 0)))] ++ plW cI L) H := hP
    have hD : va_D A ([(h0, .inr (3, [.ref tx, .int le, .ref td, .ref dr, .ref nw, .ref ac, .int fa, .int an, .ref kp, .int ks, .ref sp, .ref ss, .ref sy, .int sc, .long sd, .ref tr, .ref ia])), (ms, .inl (cM, 14, .inr (.inr (.inr (.inr f_9))))), (nw, .inr (1, [.ref ln, .int md, .int mt, .int mr, .int mg, .ref mat, .ref mfd, .ref mhd])), (mat, .inl (cI, 5, .inl mFat)), (mfd, .inl (cI, 7, .inl mFfd)), (mhd, .inl (cI, 7, .inl mFhd)), (q_3, .inr (1, [.ref td, .int 0, .int 0, .int 0, .int 0, .ref nat_4, .ref nfd_5, .ref nhd_6])), (nat_4, .inl (cI, 5, .inl (fun _ => 0))), (nfd_5, .inl (cI, 7, .inl (fun _ => 0))), (nhd_6, .inl (cI, 7, .inl (fun _ => 0)))] ++ plW cI L) := hD
    refine lv_aload_n hx hb dX3_keepIn_24 rfl (lv_at hl 0 rfl) ?_
    refine lv_aload_n hx hb dX3_keepIn_25 rfl (lv_at hl 1 rfl) ?_
    refine va_get (D := D) (ci := 3) (v := .ref nw) (C := RX3) (T := TX3) (N := 17) hx hb hts iX3 hown hK hP 0 rfl rfl 4 (by decide) (hts (.fieldLink RX3 32 "PunchedTicket" "now" "LPunchedTicket$Moment;") (List.mem_of_getElem? (i := 5) rfl)) (fun _ h9 => h9) rfl dX3_keepIn_26 ?_
    refine fV_v (As := [.ref nw]) (rest := []) ⟨hx, hb, hml, hown, hts⟩ (c_X1_copy l D cI cZ cM q_3 nw td 0 0 0 0 nat_4 nfd_5 nhd_6 ln md mt mr mg mat mfd mhd (fun _ => 0) (fun _ => 0) (fun _ => 0) mFat mFfd mFhd _ ) (cwV 1 hts gX3_keepIn_X1_copy rfl rfl rfl (by decide +kernel) ⟨by rw [hR]; decide, by rw [hR]; decide⟩) hK hP hD hS hA [6, 2, 7, 8, 9, 3, 4, 5] [0, 1] rfl rfl (by decide) (by decide) (by decide) rfl 6 rfl hl.1 rfl rfl (Nat.le_of_ble_eq_true rfl) dX3_keepIn_29 ⟨by rw [hR]; decide, by rw [hR]; decide⟩ (fun u_14 H locs hw hP hD hS => ?_)
    obtain ⟨Gat_10, Gfd_11, Ghd_12⟩ := u_14
    have hP : va_P D vwCl ([(h0, .inr (3, [.ref tx, .int le, .ref td, .ref dr, .ref nw, .ref ac, .int fa, .int an, .ref kp, .int ks, .ref sp, .ref ss, .ref sy, .int sc, .long sd, .ref tr, .ref ia])), (ms, .inl (cM, 14, .inr (.inr (.inr (.inr f_9))))), (nw, .inr (1, [.ref ln, .int md, .int mt, .int mr, .int mg, .ref mat, .ref mfd, .ref mhd])), (mat, .inl (cI, 5, .inl mFat)), (mfd, .inl (cI, 7, .inl mFfd)), (mhd, .inl (cI, 7, .inl mFhd)), (q_3, .inr (1, [.ref td, .int md, .int mt, .int mr, .int mg, .ref nat_4, .ref nfd_5, .ref nhd_6])), (nat_4, .inl (cI, 5, .inl Gat_10)), (nfd_5, .inl (cI, 7, .inl Gfd_11)), (nhd_6, .inl (cI, 7, .inl Ghd_12))] ++ plW cI L) H := P_subF hP [0, 1, 3, 7, 8, 9, 2, 4, 5, 6] rfl
    have hD : va_D A ([(h0, .inr (3, [.ref tx, .int le, .ref td, .ref dr, .ref nw, .ref ac, .int fa, .int an, .ref kp, .int ks, .ref sp, .ref ss, .ref sy, .int sc, .long sd, .ref tr, .ref ia])), (ms, .inl (cM, 14, .inr (.inr (.inr (.inr f_9))))), (nw, .inr (1, [.ref ln, .int md, .int mt, .int mr, .int mg, .ref mat, .ref mfd, .ref mhd])), (mat, .inl (cI, 5, .inl mFat)), (mfd, .inl (cI, 7, .inl mFfd)), (mhd, .inl (cI, 7, .inl mFhd)), (q_3, .inr (1, [.ref td, .int md, .int mt, .int mr, .int mg, .ref nat_4, .ref nfd_5, .ref nhd_6])), (nat_4, .inl (cI, 5, .inl Gat_10)), (nfd_5, .inl (cI, 7, .inl Gfd_11)), (nhd_6, .inl (cI, 7, .inl Ghd_12))] ++ plW cI L) := D_subF hD [0, 1, 3, 7, 8, 9, 2, 4, 5, 6] (by decide) rfl
    refine W.widen (k := 4) (n := 27) (Nat.le_refl _) (Nat.le_refl _) ?_
    have hP : va_P D vwCl ([(h0, .inr (3, [.ref tx, .int le, .ref td, .ref dr, .ref nw, .ref ac, .int fa, .int an, .ref kp, .int ks, .ref sp, .ref ss, .ref sy, .int sc, .long sd, .ref tr, .ref ia])), (ms, .inl (cM, 14, .inr (.inr (.inr (.inr f_9))))), (nw, .inr (1, [.ref ln, .int md, .int mt, .int mr, .int mg, .ref mat, .ref mfd, .ref mhd])), (mat, .inl (cI, 5, .inl mFat)), (mfd, .inl (cI, 7, .inl mFfd)), (mhd, .inl (cI, 7, .inl mFhd))] ++ plW cI (L ++ [(((q_3, td, nat_4, nfd_5, nhd_6), (md, mt, mr, mg), (Gat_10, Gfd_11, Ghd_12)) : Mom)])) H := by rw [plW_end]; exact va_P_perm hP (pm3 [(h0, .inr (3, [.ref tx, .int le, .ref td, .ref dr, .ref nw, .ref ac, .int fa, .int an, .ref kp, .int ks, .ref sp, .ref ss, .ref sy, .int sc, .long sd, .ref tr, .ref ia])), (ms, .inl (cM, 14, .inr (.inr (.inr (.inr f_9))))), (nw, .inr (1, [.ref ln, .int md, .int mt, .int mr, .int mg, .ref mat, .ref mfd, .ref mhd])), (mat, .inl (cI, 5, .inl mFat)), (mfd, .inl (cI, 7, .inl mFfd)), (mhd, .inl (cI, 7, .inl mFhd))] (mG cI (((q_3, td, nat_4, nfd_5, nhd_6), (md, mt, mr, mg), (Gat_10, Gfd_11, Ghd_12)) : Mom)) (plW cI L))
    have hD : va_D A ([(h0, .inr (3, [.ref tx, .int le, .ref td, .ref dr, .ref nw, .ref ac, .int fa, .int an, .ref kp, .int ks, .ref sp, .ref ss, .ref sy, .int sc, .long sd, .ref tr, .ref ia])), (ms, .inl (cM, 14, .inr (.inr (.inr (.inr f_9))))), (nw, .inr (1, [.ref ln, .int md, .int mt, .int mr, .int mg, .ref mat, .ref mfd, .ref mhd])), (mat, .inl (cI, 5, .inl mFat)), (mfd, .inl (cI, 7, .inl mFfd)), (mhd, .inl (cI, 7, .inl mFhd))] ++ plW cI (L ++ [(((q_3, td, nat_4, nfd_5, nhd_6), (md, mt, mr, mg), (Gat_10, Gfd_11, Ghd_12)) : Mom)])) := by rw [plW_end]; exact va_D_perm hD (pm3 [(h0, .inr (3, [.ref tx, .int le, .ref td, .ref dr, .ref nw, .ref ac, .int fa, .int an, .ref kp, .int ks, .ref sp, .ref ss, .ref sy, .int sc, .long sd, .ref tr, .ref ia])), (ms, .inl (cM, 14, .inr (.inr (.inr (.inr f_9))))), (nw, .inr (1, [.ref ln, .int md, .int mt, .int mr, .int mg, .ref mat, .ref mfd, .ref mhd])), (mat, .inl (cI, 5, .inl mFat)), (mfd, .inl (cI, 7, .inl mFfd)), (mhd, .inl (cI, 7, .inl mFhd))] (mG cI (((q_3, td, nat_4, nfd_5, nhd_6), (md, mt, mr, mg), (Gat_10, Gfd_11, Ghd_12)) : Mom)) (plW cI L))
    exact ret_v (post := (fun (u : (Nat → Option Nat) × (List Mom)) => InPool 14 u.1 u.2 ∧ Keeps L u.2 ∧ MsOk u.2)) (W1 := (fun u => ([(h0, .inr (3, [.ref tx, .int le, .ref td, .ref dr, .ref nw, .ref ac, .int fa, .int an, .ref kp, .int ks, .ref sp, .ref ss, .ref sy, .int sc, .long sd, .ref tr, .ref ia])), (ms, .inl (cM, 14, .inr (.inr (.inr (.inr u.1))))), (nw, .inr (1, [.ref ln, .int md, .int mt, .int mr, .int mg, .ref mat, .ref mfd, .ref mhd])), (mat, .inl (cI, 5, .inl mFat)), (mfd, .inl (cI, 7, .inl mFfd)), (mhd, .inl (cI, 7, .inl mFhd))] ++ plW cI u.2))) (f_9, (L ++ [(((q_3, td, nat_4, nfd_5, nhd_6), (md, mt, mr, mg), (Gat_10, Gfd_11, Ghd_12)) : Mom)])) hx hb hr hlocks hQ hK hP hD hS ⟨by decide, by decide⟩ dX3_keepIn_32 (⟨by rw [← ef_9]; exact inPool_new (M := (((q_3, td, nat_4, nfd_5, nhd_6), (md, mt, mr, mg), (Gat_10, Gfd_11, Ghd_12)) : Mom)) hPool, keeps_end, msOk_end hMs (show 0 ≤ md.toInt ∧ md.toInt ≤ 10 ∧ 0 ≤ mt.toInt ∧ mt.toInt ≤ 6 from ⟨by omega, by omega, by omega, by omega⟩)⟩)
  · skip
    obtain ⟨M_14, hM_14, hMa_14⟩ := hPool _ q_2 (by rw [cl_of]; omega) hq_1
    have hMk_14 := hMs _ hM_14
    obtain ⟨La_14, Lb_14, hL_14⟩ := List.append_of_mem hM_14
    obtain ⟨⟨ma_14, ml_14, mx_14, my_14, mz_14⟩, ⟨d0_14, t0_14, r0_14, g0_14⟩, ⟨fx_14, fy_14, fz_14⟩⟩ := M_14
    have hMa_14 : ma_14 = q_2 := hMa_14
    subst hMa_14
    rw [hL_14] at hP hD
    have hMk_14 : 0 ≤ d0_14.toInt ∧ d0_14.toInt ≤ 10 ∧ 0 ≤ t0_14.toInt ∧ t0_14.toInt ≤ 6 := hMk_14
    rw [plW_mid] at hP hD
    have hP := va_P_perm hP (pm1 _ _ _ _)
    have hD := va_D_perm hD (pm1 _ _ _ _)
    have hP : va_P D vwCl ([(h0, .inr (3, [.ref tx, .int le, .ref td, .ref dr, .ref nw, .ref ac, .int fa, .int an, .ref kp, .int ks, .ref sp, .ref ss, .ref sy, .int sc, .long sd, .ref tr, .ref ia])), (ms, .inl (cM, 14, .inr (.inr (.inr (.inr Fms))))), (nw, .inr (1, [.ref ln, .int md, .int mt, .int mr, .int mg, .ref mat, .ref mfd, .ref mhd])), (mat, .inl (cI, 5, .inl mFat)), (mfd, .inl (cI, 7, .inl mFfd)), (mhd, .inl (cI, 7, .inl mFhd)), (ma_14, .inr (1, [.ref ml_14, .int d0_14, .int t0_14, .int r0_14, .int g0_14, .ref mx_14, .ref my_14, .ref mz_14])), (mx_14, .inl (cI, 5, .inl fx_14)), (my_14, .inl (cI, 7, .inl fy_14)), (mz_14, .inl (cI, 7, .inl fz_14))] ++ (plW cI La_14 ++ plW cI Lb_14)) _ := hP
    have hD : va_D A ([(h0, .inr (3, [.ref tx, .int le, .ref td, .ref dr, .ref nw, .ref ac, .int fa, .int an, .ref kp, .int ks, .ref sp, .ref ss, .ref sy, .int sc, .long sd, .ref tr, .ref ia])), (ms, .inl (cM, 14, .inr (.inr (.inr (.inr Fms))))), (nw, .inr (1, [.ref ln, .int md, .int mt, .int mr, .int mg, .ref mat, .ref mfd, .ref mhd])), (mat, .inl (cI, 5, .inl mFat)), (mfd, .inl (cI, 7, .inl mFfd)), (mhd, .inl (cI, 7, .inl mFhd)), (ma_14, .inr (1, [.ref ml_14, .int d0_14, .int t0_14, .int r0_14, .int g0_14, .ref mx_14, .ref my_14, .ref mz_14])), (mx_14, .inl (cI, 5, .inl fx_14)), (my_14, .inl (cI, 7, .inl fy_14)), (mz_14, .inl (cI, 7, .inl fz_14))] ++ (plW cI La_14 ++ plW cI Lb_14)) := hD
    refine W.eq (g2 := F0 m 3 ls [.ref ma_14]) rfl ?_
    refine lv_astore_n (lv' := [(3, .ref ma_14), (0, .ref h0), (1, .ref ms), (2, .int n)]) hx hb dX3_keepIn_3 rfl hl (by decide) rfl (fun ls hl => ?_)
    refine lv_aload_n hx hb dX3_keepIn_4 rfl (lv_at hl 0 rfl) ?_
    refine lv_ifnonnull (tgt := 24) hx hb dX3_keepIn_5 (by decide) ?_
    refine lv_aload_n hx hb dX3_keepIn_24 rfl (lv_at hl 0 rfl) ?_
    refine lv_aload_n hx hb dX3_keepIn_25 rfl (lv_at hl 1 rfl) ?_
    refine va_get (D := D) (ci := 3) (v := .ref nw) (C := RX3) (T := TX3) (N := 17) hx hb hts iX3 hown hK hP 0 rfl rfl 4 (by decide) (hts (.fieldLink RX3 32 "PunchedTicket" "now" "LPunchedTicket$Moment;") (List.mem_of_getElem? (i := 5) rfl)) (fun _ h9 => h9) rfl dX3_keepIn_26 ?_
    refine fV_v (As := [.ref nw]) (rest := []) ⟨hx, hb, hml, hown, hts⟩ (c_X1_copy l D cI cZ cM ma_14 nw ml_14 d0_14 t0_14 r0_14 g0_14 mx_14 my_14 mz_14 ln md mt mr mg mat mfd mhd fx_14 fy_14 fz_14 mFat mFfd mFhd _ ) (cwV 1 hts gX3_keepIn_X1_copy rfl rfl rfl (by decide +kernel) ⟨by rw [hR]; decide, by rw [hR]; decide⟩) hK hP hD hS hA [6, 2, 7, 8, 9, 3, 4, 5] [0, 1] rfl rfl (by decide) (by decide) (by decide) rfl 6 rfl hl.1 rfl rfl (Nat.le_of_ble_eq_true rfl) dX3_keepIn_29 ⟨by rw [hR]; decide, by rw [hR]; decide⟩ (fun u_19 H locs hw hP hD hS => ?_)
    obtain ⟨Gat_15, Gfd_16, Ghd_17⟩ := u_19
    have hP : va_P D vwCl ([(h0, .inr (3, [.ref tx, .int le, .ref td, .ref dr, .ref nw, .ref ac, .int fa, .int an, .ref kp, .int ks, .ref sp, .ref ss, .ref sy, .int sc, .long sd, .ref tr, .ref ia])), (ms, .inl (cM, 14, .inr (.inr (.inr (.inr Fms))))), (nw, .inr (1, [.ref ln, .int md, .int mt, .int mr, .int mg, .ref mat, .ref mfd, .ref mhd])), (mat, .inl (cI, 5, .inl mFat)), (mfd, .inl (cI, 7, .inl mFfd)), (mhd, .inl (cI, 7, .inl mFhd)), (ma_14, .inr (1, [.ref ml_14, .int md, .int mt, .int mr, .int mg, .ref mx_14, .ref my_14, .ref mz_14])), (mx_14, .inl (cI, 5, .inl Gat_15)), (my_14, .inl (cI, 7, .inl Gfd_16)), (mz_14, .inl (cI, 7, .inl Ghd_17))] ++ (plW cI La_14 ++ plW cI Lb_14)) H := P_subF hP [0, 1, 3, 7, 8, 9, 2, 4, 5, 6] rfl
    have hD : va_D A ([(h0, .inr (3, [.ref tx, .int le, .ref td, .ref dr, .ref nw, .ref ac, .int fa, .int an, .ref kp, .int ks, .ref sp, .ref ss, .ref sy, .int sc, .long sd, .ref tr, .ref ia])), (ms, .inl (cM, 14, .inr (.inr (.inr (.inr Fms))))), (nw, .inr (1, [.ref ln, .int md, .int mt, .int mr, .int mg, .ref mat, .ref mfd, .ref mhd])), (mat, .inl (cI, 5, .inl mFat)), (mfd, .inl (cI, 7, .inl mFfd)), (mhd, .inl (cI, 7, .inl mFhd)), (ma_14, .inr (1, [.ref ml_14, .int md, .int mt, .int mr, .int mg, .ref mx_14, .ref my_14, .ref mz_14])), (mx_14, .inl (cI, 5, .inl Gat_15)), (my_14, .inl (cI, 7, .inl Gfd_16)), (mz_14, .inl (cI, 7, .inl Ghd_17))] ++ (plW cI La_14 ++ plW cI Lb_14)) := D_subF hD [0, 1, 3, 7, 8, 9, 2, 4, 5, 6] (by decide) rfl
    refine W.widen (k := 0) (n := 0) (Nat.le_refl _) (Nat.le_refl _) ?_
    have hP : va_P D vwCl ([(h0, .inr (3, [.ref tx, .int le, .ref td, .ref dr, .ref nw, .ref ac, .int fa, .int an, .ref kp, .int ks, .ref sp, .ref ss, .ref sy, .int sc, .long sd, .ref tr, .ref ia])), (ms, .inl (cM, 14, .inr (.inr (.inr (.inr Fms))))), (nw, .inr (1, [.ref ln, .int md, .int mt, .int mr, .int mg, .ref mat, .ref mfd, .ref mhd])), (mat, .inl (cI, 5, .inl mFat)), (mfd, .inl (cI, 7, .inl mFfd)), (mhd, .inl (cI, 7, .inl mFhd))] ++ plW cI (La_14 ++ (((ma_14, ml_14, mx_14, my_14, mz_14), (md, mt, mr, mg), (Gat_15, Gfd_16, Ghd_17)) : Mom) :: Lb_14)) H := by rw [plW_mid]; exact va_P_perm hP (pm1 [(h0, .inr (3, [.ref tx, .int le, .ref td, .ref dr, .ref nw, .ref ac, .int fa, .int an, .ref kp, .int ks, .ref sp, .ref ss, .ref sy, .int sc, .long sd, .ref tr, .ref ia])), (ms, .inl (cM, 14, .inr (.inr (.inr (.inr Fms))))), (nw, .inr (1, [.ref ln, .int md, .int mt, .int mr, .int mg, .ref mat, .ref mfd, .ref mhd])), (mat, .inl (cI, 5, .inl mFat)), (mfd, .inl (cI, 7, .inl mFfd)), (mhd, .inl (cI, 7, .inl mFhd))] (plW cI La_14) (mG cI (((ma_14, ml_14, mx_14, my_14, mz_14), (md, mt, mr, mg), (Gat_15, Gfd_16, Ghd_17)) : Mom)) (plW cI Lb_14)).symm
    have hD : va_D A ([(h0, .inr (3, [.ref tx, .int le, .ref td, .ref dr, .ref nw, .ref ac, .int fa, .int an, .ref kp, .int ks, .ref sp, .ref ss, .ref sy, .int sc, .long sd, .ref tr, .ref ia])), (ms, .inl (cM, 14, .inr (.inr (.inr (.inr Fms))))), (nw, .inr (1, [.ref ln, .int md, .int mt, .int mr, .int mg, .ref mat, .ref mfd, .ref mhd])), (mat, .inl (cI, 5, .inl mFat)), (mfd, .inl (cI, 7, .inl mFfd)), (mhd, .inl (cI, 7, .inl mFhd))] ++ plW cI (La_14 ++ (((ma_14, ml_14, mx_14, my_14, mz_14), (md, mt, mr, mg), (Gat_15, Gfd_16, Ghd_17)) : Mom) :: Lb_14)) := by rw [plW_mid]; exact va_D_perm hD (pm1 [(h0, .inr (3, [.ref tx, .int le, .ref td, .ref dr, .ref nw, .ref ac, .int fa, .int an, .ref kp, .int ks, .ref sp, .ref ss, .ref sy, .int sc, .long sd, .ref tr, .ref ia])), (ms, .inl (cM, 14, .inr (.inr (.inr (.inr Fms))))), (nw, .inr (1, [.ref ln, .int md, .int mt, .int mr, .int mg, .ref mat, .ref mfd, .ref mhd])), (mat, .inl (cI, 5, .inl mFat)), (mfd, .inl (cI, 7, .inl mFfd)), (mhd, .inl (cI, 7, .inl mFhd))] (plW cI La_14) (mG cI (((ma_14, ml_14, mx_14, my_14, mz_14), (md, mt, mr, mg), (Gat_15, Gfd_16, Ghd_17)) : Mom)) (plW cI Lb_14)).symm
    exact ret_v (post := (fun (u : (Nat → Option Nat) × (List Mom)) => InPool 14 u.1 u.2 ∧ Keeps L u.2 ∧ MsOk u.2)) (W1 := (fun u => ([(h0, .inr (3, [.ref tx, .int le, .ref td, .ref dr, .ref nw, .ref ac, .int fa, .int an, .ref kp, .int ks, .ref sp, .ref ss, .ref sy, .int sc, .long sd, .ref tr, .ref ia])), (ms, .inl (cM, 14, .inr (.inr (.inr (.inr u.1))))), (nw, .inr (1, [.ref ln, .int md, .int mt, .int mr, .int mg, .ref mat, .ref mfd, .ref mhd])), (mat, .inl (cI, 5, .inl mFat)), (mfd, .inl (cI, 7, .inl mFfd)), (mhd, .inl (cI, 7, .inl mFhd))] ++ plW cI u.2))) (Fms, (La_14 ++ (((ma_14, ml_14, mx_14, my_14, mz_14), (md, mt, mr, mg), (Gat_15, Gfd_16, Ghd_17)) : Mom) :: Lb_14)) hx hb hr hlocks hQ hK hP hD hS ⟨by decide, by decide⟩ dX3_keepIn_32 (⟨hPool.keeps (keeps_midE hL_14 rfl), keeps_midE hL_14 rfl, msOk_midE hL_14 hMs (show 0 ≤ md.toInt ∧ md.toInt ≤ 10 ∧ 0 ≤ mt.toInt ∧ mt.toInt ≤ 6 from ⟨by omega, by omega, by omega, by omega⟩)⟩)

set_option maxHeartbeats 600000 in
set_option maxRecDepth 100000 in
theorem c_X3_keepIn2 (l : Launch) (D : va_G) (cI cZ cM : ClassId) (h0 : Nat) (ms : Nat) (n : Int32) (tx : Nat) (le : Int32) (td : Nat) (dr : Nat) (nw : Nat) (ac : Nat) (fa : Int32) (an : Int32) (kp : Nat) (ks : Int32) (sp : Nat) (ss : Nat) (sy : Nat) (sc : Int32) (sd : Int64) (tr : Nat) (ia : Nat) (Fms : Nat → Option Nat) (ln : Nat) (md : Int32) (mt : Int32) (mr : Int32) (mg : Int32) (mat : Nat) (mfd : Nat) (mhd : Nat) (mFat : Nat → Int32) (mFfd : Nat → Int32) (mFhd : Nat → Int32) (L : List Mom) (sz : Nat) (hPool : InPool 2 Fms L) (hMs : MsOk L) (h_n : 0 ≤ n.toInt ∧ n.toInt ≤ 1) (h_md : 0 ≤ md.toInt ∧ md.toInt ≤ 10) (h_mt : 0 ≤ mt.toInt ∧ mt.toInt ≤ 6) : Cv l yX3_keepIn wsX3_keepIn ({ frames := 2, cells := 4, slots := 27, locals := 47 } : Room) D cI cZ cM [.ref h0, .ref ms, .int n] ([(h0, .inr (3, [.ref tx, .int le, .ref td, .ref dr, .ref nw, .ref ac, .int fa, .int an, .ref kp, .int ks, .ref sp, .ref ss, .ref sy, .int sc, .long sd, .ref tr, .ref ia])), (ms, .inl (cM, 2, .inr (.inr (.inr (.inr Fms))))), (nw, .inr (1, [.ref ln, .int md, .int mt, .int mr, .int mg, .ref mat, .ref mfd, .ref mhd])), (mat, .inl (cI, 5, .inl mFat)), (mfd, .inl (cI, 7, .inl mFfd)), (mhd, .inl (cI, 7, .inl mFhd))] ++ plW cI L) sz (fun (u : (Nat → Option Nat) × (List Mom)) => InPool 2 u.1 u.2 ∧ Keeps L u.2 ∧ MsOk u.2) (fun u => ([(h0, .inr (3, [.ref tx, .int le, .ref td, .ref dr, .ref nw, .ref ac, .int fa, .int an, .ref kp, .int ks, .ref sp, .ref ss, .ref sy, .int sc, .long sd, .ref tr, .ref ia])), (ms, .inl (cM, 2, .inr (.inr (.inr (.inr u.1))))), (nw, .inr (1, [.ref ln, .int md, .int mt, .int mr, .int mg, .ref mat, .ref mfd, .ref mhd])), (mat, .inl (cI, 5, .inl mFat)), (mfd, .inl (cI, 7, .inl mFfd)), (mhd, .inl (cI, 7, .inl mFhd))] ++ plW cI u.2)) 4 27 := by
  refine begins (l := l) (y := yX3_keepIn) (ws := wsX3_keepIn) (av := [.ref h0, .ref ms, .int n]) (Qc := fun A => va_Qv (fun (u : (Nat → Option Nat) × (List Mom)) => InPool 2 u.1 u.2 ∧ Keeps L u.2 ∧ MsOk u.2) (fun u => Wd D cI cZ cM A ((fun u => ([(h0, .inr (3, [.ref tx, .int le, .ref td, .ref dr, .ref nw, .ref ac, .int fa, .int an, .ref kp, .int ks, .ref sp, .ref ss, .ref sy, .int sc, .long sd, .ref tr, .ref ia])), (ms, .inl (cM, 2, .inr (.inr (.inr (.inr u.1))))), (nw, .inr (1, [.ref ln, .int md, .int mt, .int mr, .int mg, .ref mat, .ref mfd, .ref mhd])), (mat, .inl (cI, 5, .inl mFat)), (mfd, .inl (cI, 7, .inl mFfd)), (mhd, .inl (cI, 7, .inl mFhd))] ++ plW cI u.2)) u)) A) cX3_keepIn 4 none (by decide) rfl (Nat.le_of_ble_eq_true rfl) ?_
  intro p e s m args below meth c R Q A ls hBd hR hQ hA hS hK hP hD hl
  obtain ⟨hx, hb, hr, hts, hown, hlocks, hin, hml⟩ := hBd
  have hl : lv_has ls 4 [(0, .ref h0), (1, .ref ms), (2, .int n)] := hl
  have iX1 : ∀ w ∈ wsX10, w ∈ wsX3_keepIn := fun _ h => List.mem_cons_of_mem _ (List.mem_append_left _ (List.mem_append_right _ h))
  have iX3 : ∀ w ∈ wsX30, w ∈ wsX3_keepIn := fun _ h => List.mem_cons_of_mem _ (List.mem_append_right _ h)
  obtain ⟨h_na, h_nb⟩ := h_n
  obtain ⟨h_mda, h_mdb⟩ := h_md
  obtain ⟨h_mta, h_mtb⟩ := h_mt
  refine lv_aload_n hx hb dX3_keepIn_0 rfl (lv_at hl 1 rfl) ?_
  refine lv_iload_n hx hb dX3_keepIn_1 rfl (lv_at hl 2 rfl) ?_
  refine va_aldq hx hb hK hP 1 2 rfl rfl (vp_in_iff.mpr ⟨by omega, by omega⟩) dX3_keepIn_2 ?_
  rcases hq_1 : Fms (n : Int32).toNatClampNeg with _ | q_2
  · skip
    refine W.eq (g2 := F0 m 3 ls [.null]) rfl ?_
    refine lv_astore_nN (lv' := [(3, .null), (0, .ref h0), (1, .ref ms), (2, .int n)]) hx hb dX3_keepIn_3 rfl hl (by decide) rfl (fun ls hl => ?_)
    refine lv_aload_nN hx hb dX3_keepIn_4 rfl (lv_at hl 0 rfl) ?_
    refine lv_ifnonnullN hx hb dX3_keepIn_5 ?_
    refine va_new (ci := 1) (fs := [.null, .int 0, .int 0, .int 0, .int 0, .null, .null, .null]) (C := RX1) (T := TX1) (N := 8) hx hb hts iX1 tyX1 tyX1_ok hown (hts (.classLink RX3 27 RX1) (List.mem_of_getElem? (i := 1) rfl)) (hts (.instantiable RX1 8) (List.mem_of_getElem? (i := 2) rfl)) (hts (.initialized RX1) (List.mem_of_getElem? (i := 3) rfl)) hK hP hD hS hA rfl (fun j hj => by rcases (show j = 0 ∨ j = 1 ∨ j = 2 ∨ j = 3 ∨ j = 4 ∨ j = 5 ∨ j = 6 ∨ j = 7 by omega) with rfl | rfl | rfl | rfl | rfl | rfl | rfl | rfl <;> rfl) (by rw [hR]; exact Nat.le_of_ble_eq_true rfl) (by rw [hR]; exact Nat.le_of_ble_eq_true rfl) dX3_keepIn_8 (fun q_3 H hP hD hS => ?_)
    have hP := va_P_perm hP (pm2 _ _ _)
    have hD := va_D_perm hD (pm2 _ _ _)
    have hP : va_P D vwCl ([(h0, .inr (3, [.ref tx, .int le, .ref td, .ref dr, .ref nw, .ref ac, .int fa, .int an, .ref kp, .int ks, .ref sp, .ref ss, .ref sy, .int sc, .long sd, .ref tr, .ref ia])), (ms, .inl (cM, 2, .inr (.inr (.inr (.inr Fms))))), (nw, .inr (1, [.ref ln, .int md, .int mt, .int mr, .int mg, .ref mat, .ref mfd, .ref mhd])), (mat, .inl (cI, 5, .inl mFat)), (mfd, .inl (cI, 7, .inl mFfd)), (mhd, .inl (cI, 7, .inl mFhd)), (q_3, .inr (1, [.null, .int 0, .int 0, .int 0, .int 0, .null, .null, .null]))] ++ plW cI L) H := hP
    have hD : va_D A ([(h0, .inr (3, [.ref tx, .int le, .ref td, .ref dr, .ref nw, .ref ac, .int fa, .int an, .ref kp, .int ks, .ref sp, .ref ss, .ref sy, .int sc, .long sd, .ref tr, .ref ia])), (ms, .inl (cM, 2, .inr (.inr (.inr (.inr Fms))))), (nw, .inr (1, [.ref ln, .int md, .int mt, .int mr, .int mg, .ref mat, .ref mfd, .ref mhd])), (mat, .inl (cI, 5, .inl mFat)), (mfd, .inl (cI, 7, .inl mFfd)), (mhd, .inl (cI, 7, .inl mFhd)), (q_3, .inr (1, [.null, .int 0, .int 0, .int 0, .int 0, .null, .null, .null]))] ++ plW cI L) := hD
    refine W.widen (k := 1) (n := 8) (by omega) (by omega) ?_
    refine lv_dup hx hb dX3_keepIn_11 rfl ?_
    refine lv_aload_n hx hb dX3_keepIn_12 rfl (lv_at hl 1 rfl) ?_
    refine va_get (D := D) (ci := 3) (v := .ref td) (C := RX3) (T := TX3) (N := 17) hx hb hts iX3 hown hK hP 0 rfl rfl 2 (by decide) (hts (.fieldLink RX3 20 "PunchedTicket" "told" "LPunchedTicket$Line;") (List.mem_of_getElem? (i := 4) rfl)) (fun _ h9 => h9) rfl dX3_keepIn_13 ?_
    refine fI_v (As := [.ref td]) (rest := [.ref q_3]) ⟨hx, hb, hml, hown, hts⟩ (c_X1_init l D cI cZ cM q_3 td _ ) (cwI 1 hts gX3_keepIn_X1_init rfl rfl rfl (hts (.initialized RX1) (List.mem_of_getElem? (i := 3) rfl)) (hts (.methodLink RX3 29 yX1_init) (List.mem_of_getElem? (i := 6) rfl)) (hts (.instanceMethod yX1_init) (List.mem_of_getElem? (i := 7) rfl)) rfl (by decide +kernel) ⟨by rw [hR]; decide, by rw [hR]; decide⟩) hK hP hD hS hA [6] [0, 1, 2, 3, 4, 5] rfl rfl (by decide) (by decide) (by decide) hl.1 rfl rfl (Nat.le_of_ble_eq_true rfl) dX3_keepIn_16 ⟨by rw [hR]; decide, by rw [hR]; decide⟩ (fun u_8 H locs hw hP hD hS => ?_)
    obtain ⟨nat_4, nfd_5, nhd_6⟩ := u_8
    have hP : va_P D vwCl ([(h0, .inr (3, [.ref tx, .int le, .ref td, .ref dr, .ref nw, .ref ac, .int fa, .int an, .ref kp, .int ks, .ref sp, .ref ss, .ref sy, .int sc, .long sd, .ref tr, .ref ia])), (ms, .inl (cM, 2, .inr (.inr (.inr (.inr Fms))))), (nw, .inr (1, [.ref ln, .int md, .int mt, .int mr, .int mg, .ref mat, .ref mfd, .ref mhd])), (mat, .inl (cI, 5, .inl mFat)), (mfd, .inl (cI, 7, .inl mFfd)), (mhd, .inl (cI, 7, .inl mFhd)), (q_3, .inr (1, [.ref td, .int 0, .int 0, .int 0, .int 0, .ref nat_4, .ref nfd_5, .ref nhd_6])), (nat_4, .inl (cI, 5, .inl (fun _ => 0))), (nfd_5, .inl (cI, 7, .inl (fun _ => 0))), (nhd_6, .inl (cI, 7, .inl (fun _ => 0)))] ++ plW cI L) H := P_subF hP [0, 1, 2, 3, 4, 5, 6, 7, 8, 9] rfl
    have hD : va_D A ([(h0, .inr (3, [.ref tx, .int le, .ref td, .ref dr, .ref nw, .ref ac, .int fa, .int an, .ref kp, .int ks, .ref sp, .ref ss, .ref sy, .int sc, .long sd, .ref tr, .ref ia])), (ms, .inl (cM, 2, .inr (.inr (.inr (.inr Fms))))), (nw, .inr (1, [.ref ln, .int md, .int mt, .int mr, .int mg, .ref mat, .ref mfd, .ref mhd])), (mat, .inl (cI, 5, .inl mFat)), (mfd, .inl (cI, 7, .inl mFfd)), (mhd, .inl (cI, 7, .inl mFhd)), (q_3, .inr (1, [.ref td, .int 0, .int 0, .int 0, .int 0, .ref nat_4, .ref nfd_5, .ref nhd_6])), (nat_4, .inl (cI, 5, .inl (fun _ => 0))), (nfd_5, .inl (cI, 7, .inl (fun _ => 0))), (nhd_6, .inl (cI, 7, .inl (fun _ => 0)))] ++ plW cI L) := D_subF hD [0, 1, 2, 3, 4, 5, 6, 7, 8, 9] (by decide) rfl
    refine W.widen (k := 4) (n := 27) (by omega) (by omega) ?_
    refine lv_astore_n (lv' := [(3, .ref q_3), (0, .ref h0), (1, .ref ms), (2, .int n)]) hx hb dX3_keepIn_19 rfl hl (by decide) rfl (fun ls hl => ?_)
    refine lv_aload_n hx hb dX3_keepIn_20 rfl (lv_at hl 2 rfl) ?_
    refine lv_iload_n hx hb dX3_keepIn_21 rfl (lv_at hl 3 rfl) ?_
    refine lv_aload_n hx hb dX3_keepIn_22 rfl (lv_at hl 0 rfl) ?_
    refine va_astq hx hb hK hP hD hS 1 2 6 1 rfl rfl rfl rfl (vp_in_iff.mpr ⟨by omega, by omega⟩) dX3_keepIn_23 (fun H locs hP hD hS => ?_)
    obtain ⟨f_9, ef_9⟩ : ∃ g : Nat → Option Nat, va_up Fms (n : Int32).toNatClampNeg (some q_3) = g := ⟨_, rfl⟩
    rw [ef_9] at hP hD
    have hP : va_P D vwCl ([(h0, .inr (3, [.ref tx, .int le, .ref td, .ref dr, .ref nw, .ref ac, .int fa, .int an, .ref kp, .int ks, .ref sp, .ref ss, .ref sy, .int sc, .long sd, .ref tr, .ref ia])), (ms, .inl (cM, 2, .inr (.inr (.inr (.inr f_9))))), (nw, .inr (1, [.ref ln, .int md, .int mt, .int mr, .int mg, .ref mat, .ref mfd, .ref mhd])), (mat, .inl (cI, 5, .inl mFat)), (mfd, .inl (cI, 7, .inl mFfd)), (mhd, .inl (cI, 7, .inl mFhd)), (q_3, .inr (1, [.ref td, .int 0, .int 0, .int 0, .int 0, .ref nat_4, .ref nfd_5, .ref nhd_6])), (nat_4, .inl (cI, 5, .inl (fun _ => 0))), (nfd_5, .inl (cI, 7, .inl (fun _ => 0))), (nhd_6, .inl (cI, 7, .inl (fun _ => 0)))] ++ plW cI L) H := hP
    have hD : va_D A ([(h0, .inr (3, [.ref tx, .int le, .ref td, .ref dr, .ref nw, .ref ac, .int fa, .int an, .ref kp, .int ks, .ref sp, .ref ss, .ref sy, .int sc, .long sd, .ref tr, .ref ia])), (ms, .inl (cM, 2, .inr (.inr (.inr (.inr f_9))))), (nw, .inr (1, [.ref ln, .int md, .int mt, .int mr, .int mg, .ref mat, .ref mfd, .ref mhd])), (mat, .inl (cI, 5, .inl mFat)), (mfd, .inl (cI, 7, .inl mFfd)), (mhd, .inl (cI, 7, .inl mFhd)), (q_3, .inr (1, [.ref td, .int 0, .int 0, .int 0, .int 0, .ref nat_4, .ref nfd_5, .ref nhd_6])), (nat_4, .inl (cI, 5, .inl (fun _ => 0))), (nfd_5, .inl (cI, 7, .inl (fun _ => 0))), (nhd_6, .inl (cI, 7, .inl (fun _ => 0)))] ++ plW cI L) := hD
    refine lv_aload_n hx hb dX3_keepIn_24 rfl (lv_at hl 0 rfl) ?_
    refine lv_aload_n hx hb dX3_keepIn_25 rfl (lv_at hl 1 rfl) ?_
    refine va_get (D := D) (ci := 3) (v := .ref nw) (C := RX3) (T := TX3) (N := 17) hx hb hts iX3 hown hK hP 0 rfl rfl 4 (by decide) (hts (.fieldLink RX3 32 "PunchedTicket" "now" "LPunchedTicket$Moment;") (List.mem_of_getElem? (i := 5) rfl)) (fun _ h9 => h9) rfl dX3_keepIn_26 ?_
    refine fV_v (As := [.ref nw]) (rest := []) ⟨hx, hb, hml, hown, hts⟩ (c_X1_copy l D cI cZ cM q_3 nw td 0 0 0 0 nat_4 nfd_5 nhd_6 ln md mt mr mg mat mfd mhd (fun _ => 0) (fun _ => 0) (fun _ => 0) mFat mFfd mFhd _ ) (cwV 1 hts gX3_keepIn_X1_copy rfl rfl rfl (by decide +kernel) ⟨by rw [hR]; decide, by rw [hR]; decide⟩) hK hP hD hS hA [6, 2, 7, 8, 9, 3, 4, 5] [0, 1] rfl rfl (by decide) (by decide) (by decide) rfl 6 rfl hl.1 rfl rfl (Nat.le_of_ble_eq_true rfl) dX3_keepIn_29 ⟨by rw [hR]; decide, by rw [hR]; decide⟩ (fun u_14 H locs hw hP hD hS => ?_)
    obtain ⟨Gat_10, Gfd_11, Ghd_12⟩ := u_14
    have hP : va_P D vwCl ([(h0, .inr (3, [.ref tx, .int le, .ref td, .ref dr, .ref nw, .ref ac, .int fa, .int an, .ref kp, .int ks, .ref sp, .ref ss, .ref sy, .int sc, .long sd, .ref tr, .ref ia])), (ms, .inl (cM, 2, .inr (.inr (.inr (.inr f_9))))), (nw, .inr (1, [.ref ln, .int md, .int mt, .int mr, .int mg, .ref mat, .ref mfd, .ref mhd])), (mat, .inl (cI, 5, .inl mFat)), (mfd, .inl (cI, 7, .inl mFfd)), (mhd, .inl (cI, 7, .inl mFhd)), (q_3, .inr (1, [.ref td, .int md, .int mt, .int mr, .int mg, .ref nat_4, .ref nfd_5, .ref nhd_6])), (nat_4, .inl (cI, 5, .inl Gat_10)), (nfd_5, .inl (cI, 7, .inl Gfd_11)), (nhd_6, .inl (cI, 7, .inl Ghd_12))] ++ plW cI L) H := P_subF hP [0, 1, 3, 7, 8, 9, 2, 4, 5, 6] rfl
    have hD : va_D A ([(h0, .inr (3, [.ref tx, .int le, .ref td, .ref dr, .ref nw, .ref ac, .int fa, .int an, .ref kp, .int ks, .ref sp, .ref ss, .ref sy, .int sc, .long sd, .ref tr, .ref ia])), (ms, .inl (cM, 2, .inr (.inr (.inr (.inr f_9))))), (nw, .inr (1, [.ref ln, .int md, .int mt, .int mr, .int mg, .ref mat, .ref mfd, .ref mhd])), (mat, .inl (cI, 5, .inl mFat)), (mfd, .inl (cI, 7, .inl mFfd)), (mhd, .inl (cI, 7, .inl mFhd)), (q_3, .inr (1, [.ref td, .int md, .int mt, .int mr, .int mg, .ref nat_4, .ref nfd_5, .ref nhd_6])), (nat_4, .inl (cI, 5, .inl Gat_10)), (nfd_5, .inl (cI, 7, .inl Gfd_11)), (nhd_6, .inl (cI, 7, .inl Ghd_12))] ++ plW cI L) := D_subF hD [0, 1, 3, 7, 8, 9, 2, 4, 5, 6] (by decide) rfl
    refine W.widen (k := 4) (n := 27) (Nat.le_refl _) (Nat.le_refl _) ?_
    have hP : va_P D vwCl ([(h0, .inr (3, [.ref tx, .int le, .ref td, .ref dr, .ref nw, .ref ac, .int fa, .int an, .ref kp, .int ks, .ref sp, .ref ss, .ref sy, .int sc, .long sd, .ref tr, .ref ia])), (ms, .inl (cM, 2, .inr (.inr (.inr (.inr f_9))))), (nw, .inr (1, [.ref ln, .int md, .int mt, .int mr, .int mg, .ref mat, .ref mfd, .ref mhd])), (mat, .inl (cI, 5, .inl mFat)), (mfd, .inl (cI, 7, .inl mFfd)), (mhd, .inl (cI, 7, .inl mFhd))] ++ plW cI (L ++ [(((q_3, td, nat_4, nfd_5, nhd_6), (md, mt, mr, mg), (Gat_10, Gfd_11, Ghd_12)) : Mom)])) H := by rw [plW_end]; exact va_P_perm hP (pm3 [(h0, .inr (3, [.ref tx, .int le, .ref td, .ref dr, .ref nw, .ref ac, .int fa, .int an, .ref kp, .int ks, .ref sp, .ref ss, .ref sy, .int sc, .long sd, .ref tr, .ref ia])), (ms, .inl (cM, 2, .inr (.inr (.inr (.inr f_9))))), (nw, .inr (1, [.ref ln, .int md, .int mt, .int mr, .int mg, .ref mat, .ref mfd, .ref mhd])), (mat, .inl (cI, 5, .inl mFat)), (mfd, .inl (cI, 7, .inl mFfd)), (mhd, .inl (cI, 7, .inl mFhd))] (mG cI (((q_3, td, nat_4, nfd_5, nhd_6), (md, mt, mr, mg), (Gat_10, Gfd_11, Ghd_12)) : Mom)) (plW cI L))
    have hD : va_D A ([(h0, .inr (3, [.ref tx, .int le, .ref td, .ref dr, .ref nw, .ref ac, .int fa, .int an, .ref kp, .int ks, .ref sp, .ref ss, .ref sy, .int sc, .long sd, .ref tr, .ref ia])), (ms, .inl (cM, 2, .inr (.inr (.inr (.inr f_9))))), (nw, .inr (1, [.ref ln, .int md, .int mt, .int mr, .int mg, .ref mat, .ref mfd, .ref mhd])), (mat, .inl (cI, 5, .inl mFat)), (mfd, .inl (cI, 7, .inl mFfd)), (mhd, .inl (cI, 7, .inl mFhd))] ++ plW cI (L ++ [(((q_3, td, nat_4, nfd_5, nhd_6), (md, mt, mr, mg), (Gat_10, Gfd_11, Ghd_12)) : Mom)])) := by rw [plW_end]; exact va_D_perm hD (pm3 [(h0, .inr (3, [.ref tx, .int le, .ref td, .ref dr, .ref nw, .ref ac, .int fa, .int an, .ref kp, .int ks, .ref sp, .ref ss, .ref sy, .int sc, .long sd, .ref tr, .ref ia])), (ms, .inl (cM, 2, .inr (.inr (.inr (.inr f_9))))), (nw, .inr (1, [.ref ln, .int md, .int mt, .int mr, .int mg, .ref mat, .ref mfd, .ref mhd])), (mat, .inl (cI, 5, .inl mFat)), (mfd, .inl (cI, 7, .inl mFfd)), (mhd, .inl (cI, 7, .inl mFhd))] (mG cI (((q_3, td, nat_4, nfd_5, nhd_6), (md, mt, mr, mg), (Gat_10, Gfd_11, Ghd_12)) : Mom)) (plW cI L))
    exact ret_v (post := (fun (u : (Nat → Option Nat) × (List Mom)) => InPool 2 u.1 u.2 ∧ Keeps L u.2 ∧ MsOk u.2)) (W1 := (fun u => ([(h0, .inr (3, [.ref tx, .int le, .ref td, .ref dr, .ref nw, .ref ac, .int fa, .int an, .ref kp, .int ks, .ref sp, .ref ss, .ref sy, .int sc, .long sd, .ref tr, .ref ia])), (ms, .inl (cM, 2, .inr (.inr (.inr (.inr u.1))))), (nw, .inr (1, [.ref ln, .int md, .int mt, .int mr, .int mg, .ref mat, .ref mfd, .ref mhd])), (mat, .inl (cI, 5, .inl mFat)), (mfd, .inl (cI, 7, .inl mFfd)), (mhd, .inl (cI, 7, .inl mFhd))] ++ plW cI u.2))) (f_9, (L ++ [(((q_3, td, nat_4, nfd_5, nhd_6), (md, mt, mr, mg), (Gat_10, Gfd_11, Ghd_12)) : Mom)])) hx hb hr hlocks hQ hK hP hD hS ⟨by decide, by decide⟩ dX3_keepIn_32 (⟨by rw [← ef_9]; exact inPool_new (M := (((q_3, td, nat_4, nfd_5, nhd_6), (md, mt, mr, mg), (Gat_10, Gfd_11, Ghd_12)) : Mom)) hPool, keeps_end, msOk_end hMs (show 0 ≤ md.toInt ∧ md.toInt ≤ 10 ∧ 0 ≤ mt.toInt ∧ mt.toInt ≤ 6 from ⟨by omega, by omega, by omega, by omega⟩)⟩)
  · skip
    obtain ⟨M_14, hM_14, hMa_14⟩ := hPool _ q_2 (by rw [cl_of]; omega) hq_1
    have hMk_14 := hMs _ hM_14
    obtain ⟨La_14, Lb_14, hL_14⟩ := List.append_of_mem hM_14
    obtain ⟨⟨ma_14, ml_14, mx_14, my_14, mz_14⟩, ⟨d0_14, t0_14, r0_14, g0_14⟩, ⟨fx_14, fy_14, fz_14⟩⟩ := M_14
    have hMa_14 : ma_14 = q_2 := hMa_14
    subst hMa_14
    rw [hL_14] at hP hD
    have hMk_14 : 0 ≤ d0_14.toInt ∧ d0_14.toInt ≤ 10 ∧ 0 ≤ t0_14.toInt ∧ t0_14.toInt ≤ 6 := hMk_14
    rw [plW_mid] at hP hD
    have hP := va_P_perm hP (pm1 _ _ _ _)
    have hD := va_D_perm hD (pm1 _ _ _ _)
    have hP : va_P D vwCl ([(h0, .inr (3, [.ref tx, .int le, .ref td, .ref dr, .ref nw, .ref ac, .int fa, .int an, .ref kp, .int ks, .ref sp, .ref ss, .ref sy, .int sc, .long sd, .ref tr, .ref ia])), (ms, .inl (cM, 2, .inr (.inr (.inr (.inr Fms))))), (nw, .inr (1, [.ref ln, .int md, .int mt, .int mr, .int mg, .ref mat, .ref mfd, .ref mhd])), (mat, .inl (cI, 5, .inl mFat)), (mfd, .inl (cI, 7, .inl mFfd)), (mhd, .inl (cI, 7, .inl mFhd)), (ma_14, .inr (1, [.ref ml_14, .int d0_14, .int t0_14, .int r0_14, .int g0_14, .ref mx_14, .ref my_14, .ref mz_14])), (mx_14, .inl (cI, 5, .inl fx_14)), (my_14, .inl (cI, 7, .inl fy_14)), (mz_14, .inl (cI, 7, .inl fz_14))] ++ (plW cI La_14 ++ plW cI Lb_14)) _ := hP
    have hD : va_D A ([(h0, .inr (3, [.ref tx, .int le, .ref td, .ref dr, .ref nw, .ref ac, .int fa, .int an, .ref kp, .int ks, .ref sp, .ref ss, .ref sy, .int sc, .long sd, .ref tr, .ref ia])), (ms, .inl (cM, 2, .inr (.inr (.inr (.inr Fms))))), (nw, .inr (1, [.ref ln, .int md, .int mt, .int mr, .int mg, .ref mat, .ref mfd, .ref mhd])), (mat, .inl (cI, 5, .inl mFat)), (mfd, .inl (cI, 7, .inl mFfd)), (mhd, .inl (cI, 7, .inl mFhd)), (ma_14, .inr (1, [.ref ml_14, .int d0_14, .int t0_14, .int r0_14, .int g0_14, .ref mx_14, .ref my_14, .ref mz_14])), (mx_14, .inl (cI, 5, .inl fx_14)), (my_14, .inl (cI, 7, .inl fy_14)), (mz_14, .inl (cI, 7, .inl fz_14))] ++ (plW cI La_14 ++ plW cI Lb_14)) := hD
    refine W.eq (g2 := F0 m 3 ls [.ref ma_14]) rfl ?_
    refine lv_astore_n (lv' := [(3, .ref ma_14), (0, .ref h0), (1, .ref ms), (2, .int n)]) hx hb dX3_keepIn_3 rfl hl (by decide) rfl (fun ls hl => ?_)
    refine lv_aload_n hx hb dX3_keepIn_4 rfl (lv_at hl 0 rfl) ?_
    refine lv_ifnonnull (tgt := 24) hx hb dX3_keepIn_5 (by decide) ?_
    refine lv_aload_n hx hb dX3_keepIn_24 rfl (lv_at hl 0 rfl) ?_
    refine lv_aload_n hx hb dX3_keepIn_25 rfl (lv_at hl 1 rfl) ?_
    refine va_get (D := D) (ci := 3) (v := .ref nw) (C := RX3) (T := TX3) (N := 17) hx hb hts iX3 hown hK hP 0 rfl rfl 4 (by decide) (hts (.fieldLink RX3 32 "PunchedTicket" "now" "LPunchedTicket$Moment;") (List.mem_of_getElem? (i := 5) rfl)) (fun _ h9 => h9) rfl dX3_keepIn_26 ?_
    refine fV_v (As := [.ref nw]) (rest := []) ⟨hx, hb, hml, hown, hts⟩ (c_X1_copy l D cI cZ cM ma_14 nw ml_14 d0_14 t0_14 r0_14 g0_14 mx_14 my_14 mz_14 ln md mt mr mg mat mfd mhd fx_14 fy_14 fz_14 mFat mFfd mFhd _ ) (cwV 1 hts gX3_keepIn_X1_copy rfl rfl rfl (by decide +kernel) ⟨by rw [hR]; decide, by rw [hR]; decide⟩) hK hP hD hS hA [6, 2, 7, 8, 9, 3, 4, 5] [0, 1] rfl rfl (by decide) (by decide) (by decide) rfl 6 rfl hl.1 rfl rfl (Nat.le_of_ble_eq_true rfl) dX3_keepIn_29 ⟨by rw [hR]; decide, by rw [hR]; decide⟩ (fun u_19 H locs hw hP hD hS => ?_)
    obtain ⟨Gat_15, Gfd_16, Ghd_17⟩ := u_19
    have hP : va_P D vwCl ([(h0, .inr (3, [.ref tx, .int le, .ref td, .ref dr, .ref nw, .ref ac, .int fa, .int an, .ref kp, .int ks, .ref sp, .ref ss, .ref sy, .int sc, .long sd, .ref tr, .ref ia])), (ms, .inl (cM, 2, .inr (.inr (.inr (.inr Fms))))), (nw, .inr (1, [.ref ln, .int md, .int mt, .int mr, .int mg, .ref mat, .ref mfd, .ref mhd])), (mat, .inl (cI, 5, .inl mFat)), (mfd, .inl (cI, 7, .inl mFfd)), (mhd, .inl (cI, 7, .inl mFhd)), (ma_14, .inr (1, [.ref ml_14, .int md, .int mt, .int mr, .int mg, .ref mx_14, .ref my_14, .ref mz_14])), (mx_14, .inl (cI, 5, .inl Gat_15)), (my_14, .inl (cI, 7, .inl Gfd_16)), (mz_14, .inl (cI, 7, .inl Ghd_17))] ++ (plW cI La_14 ++ plW cI Lb_14)) H := P_subF hP [0, 1, 3, 7, 8, 9, 2, 4, 5, 6] rfl
    have hD : va_D A ([(h0, .inr (3, [.ref tx, .int le, .ref td, .ref dr, .ref nw, .ref ac, .int fa, .int an, .ref kp, .int ks, .ref sp, .ref ss, .ref sy, .int sc, .long sd, .ref tr, .ref ia])), (ms, .inl (cM, 2, .inr (.inr (.inr (.inr Fms))))), (nw, .inr (1, [.ref ln, .int md, .int mt, .int mr, .int mg, .ref mat, .ref mfd, .ref mhd])), (mat, .inl (cI, 5, .inl mFat)), (mfd, .inl (cI, 7, .inl mFfd)), (mhd, .inl (cI, 7, .inl mFhd)), (ma_14, .inr (1, [.ref ml_14, .int md, .int mt, .int mr, .int mg, .ref mx_14, .ref my_14, .ref mz_14])), (mx_14, .inl (cI, 5, .inl Gat_15)), (my_14, .inl (cI, 7, .inl Gfd_16)), (mz_14, .inl (cI, 7, .inl Ghd_17))] ++ (plW cI La_14 ++ plW cI Lb_14)) := D_subF hD [0, 1, 3, 7, 8, 9, 2, 4, 5, 6] (by decide) rfl
    refine W.widen (k := 0) (n := 0) (Nat.le_refl _) (Nat.le_refl _) ?_
    have hP : va_P D vwCl ([(h0, .inr (3, [.ref tx, .int le, .ref td, .ref dr, .ref nw, .ref ac, .int fa, .int an, .ref kp, .int ks, .ref sp, .ref ss, .ref sy, .int sc, .long sd, .ref tr, .ref ia])), (ms, .inl (cM, 2, .inr (.inr (.inr (.inr Fms))))), (nw, .inr (1, [.ref ln, .int md, .int mt, .int mr, .int mg, .ref mat, .ref mfd, .ref mhd])), (mat, .inl (cI, 5, .inl mFat)), (mfd, .inl (cI, 7, .inl mFfd)), (mhd, .inl (cI, 7, .inl mFhd))] ++ plW cI (La_14 ++ (((ma_14, ml_14, mx_14, my_14, mz_14), (md, mt, mr, mg), (Gat_15, Gfd_16, Ghd_17)) : Mom) :: Lb_14)) H := by rw [plW_mid]; exact va_P_perm hP (pm1 [(h0, .inr (3, [.ref tx, .int le, .ref td, .ref dr, .ref nw, .ref ac, .int fa, .int an, .ref kp, .int ks, .ref sp, .ref ss, .ref sy, .int sc, .long sd, .ref tr, .ref ia])), (ms, .inl (cM, 2, .inr (.inr (.inr (.inr Fms))))), (nw, .inr (1, [.ref ln, .int md, .int mt, .int mr, .int mg, .ref mat, .ref mfd, .ref mhd])), (mat, .inl (cI, 5, .inl mFat)), (mfd, .inl (cI, 7, .inl mFfd)), (mhd, .inl (cI, 7, .inl mFhd))] (plW cI La_14) (mG cI (((ma_14, ml_14, mx_14, my_14, mz_14), (md, mt, mr, mg), (Gat_15, Gfd_16, Ghd_17)) : Mom)) (plW cI Lb_14)).symm
    have hD : va_D A ([(h0, .inr (3, [.ref tx, .int le, .ref td, .ref dr, .ref nw, .ref ac, .int fa, .int an, .ref kp, .int ks, .ref sp, .ref ss, .ref sy, .int sc, .long sd, .ref tr, .ref ia])), (ms, .inl (cM, 2, .inr (.inr (.inr (.inr Fms))))), (nw, .inr (1, [.ref ln, .int md, .int mt, .int mr, .int mg, .ref mat, .ref mfd, .ref mhd])), (mat, .inl (cI, 5, .inl mFat)), (mfd, .inl (cI, 7, .inl mFfd)), (mhd, .inl (cI, 7, .inl mFhd))] ++ plW cI (La_14 ++ (((ma_14, ml_14, mx_14, my_14, mz_14), (md, mt, mr, mg), (Gat_15, Gfd_16, Ghd_17)) : Mom) :: Lb_14)) := by rw [plW_mid]; exact va_D_perm hD (pm1 [(h0, .inr (3, [.ref tx, .int le, .ref td, .ref dr, .ref nw, .ref ac, .int fa, .int an, .ref kp, .int ks, .ref sp, .ref ss, .ref sy, .int sc, .long sd, .ref tr, .ref ia])), (ms, .inl (cM, 2, .inr (.inr (.inr (.inr Fms))))), (nw, .inr (1, [.ref ln, .int md, .int mt, .int mr, .int mg, .ref mat, .ref mfd, .ref mhd])), (mat, .inl (cI, 5, .inl mFat)), (mfd, .inl (cI, 7, .inl mFfd)), (mhd, .inl (cI, 7, .inl mFhd))] (plW cI La_14) (mG cI (((ma_14, ml_14, mx_14, my_14, mz_14), (md, mt, mr, mg), (Gat_15, Gfd_16, Ghd_17)) : Mom)) (plW cI Lb_14)).symm
    exact ret_v (post := (fun (u : (Nat → Option Nat) × (List Mom)) => InPool 2 u.1 u.2 ∧ Keeps L u.2 ∧ MsOk u.2)) (W1 := (fun u => ([(h0, .inr (3, [.ref tx, .int le, .ref td, .ref dr, .ref nw, .ref ac, .int fa, .int an, .ref kp, .int ks, .ref sp, .ref ss, .ref sy, .int sc, .long sd, .ref tr, .ref ia])), (ms, .inl (cM, 2, .inr (.inr (.inr (.inr u.1))))), (nw, .inr (1, [.ref ln, .int md, .int mt, .int mr, .int mg, .ref mat, .ref mfd, .ref mhd])), (mat, .inl (cI, 5, .inl mFat)), (mfd, .inl (cI, 7, .inl mFfd)), (mhd, .inl (cI, 7, .inl mFhd))] ++ plW cI u.2))) (Fms, (La_14 ++ (((ma_14, ml_14, mx_14, my_14, mz_14), (md, mt, mr, mg), (Gat_15, Gfd_16, Ghd_17)) : Mom) :: Lb_14)) hx hb hr hlocks hQ hK hP hD hS ⟨by decide, by decide⟩ dX3_keepIn_32 (⟨hPool.keeps (keeps_midE hL_14 rfl), keeps_midE hL_14 rfl, msOk_midE hL_14 hMs (show 0 ≤ md.toInt ∧ md.toInt ≤ 10 ∧ 0 ≤ mt.toInt ∧ mt.toInt ≤ 6 from ⟨by omega, by omega, by omega, by omega⟩)⟩)
