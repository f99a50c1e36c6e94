theorem dL_law_18 : decode cL_law 18 = .ok (.iload_n 3, 1) := by decide +kernel
theorem dL_law_19 : decode cL_law 19 = .ok (.aload_n 0, 1) := by decide +kernel
theorem dL_law_20 : decode cL_law 20 = .ok (.arraylength, 1) := by decide +kernel
theorem dL_law_21 : decode cL_law 21 = .ok (.iconst 5, 1) := by decide +kernel
theorem dL_law_22 : decode cL_law 22 = .ok (.isub, 1) := by decide +kernel
theorem dL_law_23 : decode cL_law 23 = .ok (.if_icmp .gt 952, 3) := by decide +kernel
theorem dL_law_26 : decode cL_law 26 = .ok (.aload_n 0, 1) := by decide +kernel
theorem dL_law_27 : decode cL_law 27 = .ok (.iload_n 3, 1) := by decide +kernel
theorem dL_law_28 : decode cL_law 28 = .ok (.iaload, 1) := by decide +kernel
theorem dL_law_29 : decode cL_law 29 = .ok (.bipush 31, 2) := by decide +kernel
theorem dL_law_31 : decode cL_law 31 = .ok (.iand, 1) := by decide +kernel
theorem dL_law_32 : decode cL_law 32 = .ok (.tableswitch 937 0 28 #[132, 155, 168, 181, 194, 227, 260, 273, 306, 329, 362, 375, 408, 441, 454, 513, 526, 549, 562, 611, 644, 687, 700, 723, 792, 845, 868, 891, 914], 132) := by decide +kernel
theorem dL_law_969 : decode cL_law 969 = .ok (.iinc 3 5, 3) := by decide +kernel
theorem dL_law_972 : decode cL_law 972 = .ok (.goto (-954), 3) := by decide +kernel
set_option maxHeartbeats 4000000 in
set_option maxRecDepth 100000 in
theorem law_loop {p : Program} {l : Launch} {e : Env} {s : State} {m : MethodId} {below : List Frame} {meth : Method} {c : Code} {b LN : Nat} {xs : Nat → Int32} {A : Nat → Prop} {args : Array Value} {R : Room} {Q : State → Prop} (hB : Lb p s m args meth c b xs A LN) (hR : R = room_1) (hargs : args = #[Value.ref b]) (hQ : Q = lw_Z below #[Value.ref b] s) (hLN : LN ≤ 320) (D : va_G) (cI cZ cM : ClassId) (hK : va_K D vwCl (ty3 cI cZ cM) s) (x0 y0 : Nat) : ∀ (fu k : Nat) (ix : Int32) (H : Heap) (locs : List Loc) (ls : Array Slot), 65 - k < fu → k ≤ 64 → ix.toInt = 5 * (k : Int) → StW D cI cZ cM A x0 y0 H → va_S A s.heap H locs → lv_has ls 4 [(0, .ref b), (1, .ref x0), (2, .ref y0), (3, .int ix)] → W p l e R s m args below meth c H locs (56 + 4 * k) (1426 + 27 * k) Q (F0 m 18 ls []) := by
  intro fu
  induction fu with
  | zero => intro k ix H locs ls hmu; exact absurd hmu (Nat.not_lt_zero _)
  | succ fu ih =>
    intro k ix H locs ls hmu hk hix hSt hS hl
    obtain ⟨hx, hb, hr, hml, hown, hts, hX, hbl, hlocks, hA, hAf⟩ := id hB
    have hbA : ¬ A b := fun q => absurd (hAf b q) (Nat.not_le.mpr hbl)
    refine lv_iload_n hx hb dL_law_18 rfl (lv_at hl 3 rfl) ?_
    refine lv_aload_n hx hb dL_law_19 rfl (lv_at hl 0 rfl) ?_
    refine va_slen hx hb hX hbl hbA hS dL_law_20 ?_
    refine lv_iconst (v := 5) hx hb dL_law_21 (by decide) ?_
    refine lv_isub hx hb dL_law_22 ?_
    refine lv_topi (fun v ev => ?_)
    have tL : (Int32.ofNat LN).toInt = (LN : Int) := nI_toInt (n := LN) (by omega)
    have t5 : (5 : Int32).toInt = 5 := by decide
    have tv : v.toInt = (LN : Int) - 5 := by
      have h := ti_sub (x := Int32.ofNat LN) (y := 5) (by rw [tL, t5]; omega) (by rw [tL, t5]; omega)
      rw [tL, t5] at h
      rw [ev]; exact h
    refine lv_icmp_gt (tgt := 975) hx hb dL_law_23 (by decide) (fun c1 => ?_) (fun c1 => ?_)
    · exact law_1 (b := b) hx hb hr hlocks hR hargs hQ (by omega) (by omega) hAf hS
    · have t1 := b_nlt (x := v) (y := ix) tv hix c1
      refine lv_aload_n hx hb dL_law_26 rfl (lv_at hl 0 rfl) ?_
      refine lv_iload_n hx hb dL_law_27 rfl (lv_at hl 3 rfl) ?_
      refine va_sld hx hb hX hbl hbA hS (vp_in_iff.mpr ⟨by omega, by omega⟩) dL_law_28 ?_
      refine lv_bipush (v := 31) hx hb dL_law_29 (by decide) ?_
      refine lv_iand hx hb dL_law_31 ?_
      refine lv_topi (fun sw esw => ?_)
      have hNext : ∀ (H : Heap) (locs : List Loc) (ls : Array Slot), StW D cI cZ cM A x0 y0 H → va_S A s.heap H locs → lv_has ls 4 [(0, .ref b), (1, .ref x0), (2, .ref y0), (3, .int ix)] → W p l e R s m args below meth c H locs ((56 + 4 * k) + 4) ((1426 + 27 * k) + 27) Q (F0 m 969 ls []) := by
        intro H locs ls hSt hS hl
        obtain ⟨w, ew⟩ : ∃ z : Int32, z = ix + 5 := ⟨_, rfl⟩
        have tw : w.toInt = ix.toInt + 5 := by rw [ew]; exact ti_add (x := ix) (y := 5) (show -2147483648 ≤ ix.toInt + 5 by omega) (show ix.toInt + 5 < 2147483648 by omega)
        refine lv_iinc (v := w) (lv' := [(3, .int w), (0, .ref b), (1, .ref x0), (2, .ref y0)]) hx hb dL_law_969 hl (k := 3) rfl (by rw [ew]; rfl) (by decide) rfl (fun ls hl => ?_)
        refine lv_goto (tgt := 18) hx hb dL_law_972 (by decide) ?_
        exact W.widen (by omega) (by omega) (ih (k + 1) w _ _ _ (by omega) (by omega) (by omega) hSt hS (lv_sub hl [1, 2, 3, 0] rfl))
      by_cases c_s : sw.toInt < 0 ∨ 28 < sw.toInt
      · refine lv_tableOut (tgt := 969) hx hb dL_law_32 c_s (by decide) ?_
        exact W.widen (by omega) (by omega) (hNext _ _ _ hSt hS hl)
      · rcases (show sw.toInt = 0 ∨ sw.toInt = 1 ∨ sw.toInt = 2 ∨ sw.toInt = 3 ∨ sw.toInt = 4 ∨ sw.toInt = 5 ∨ sw.toInt = 6 ∨ sw.toInt = 7 ∨ sw.toInt = 8 ∨ sw.toInt = 9 ∨ sw.toInt = 10 ∨ sw.toInt = 11 ∨ sw.toInt = 12 ∨ sw.toInt = 13 ∨ sw.toInt = 14 ∨ sw.toInt = 15 ∨ sw.toInt = 16 ∨ sw.toInt = 17 ∨ sw.toInt = 18 ∨ sw.toInt = 19 ∨ sw.toInt = 20 ∨ sw.toInt = 21 ∨ sw.toInt = 22 ∨ sw.toInt = 23 ∨ sw.toInt = 24 ∨ sw.toInt = 25 ∨ sw.toInt = 26 ∨ sw.toInt = 27 ∨ sw.toInt = 28 by omega) with ci | ci | ci | ci | ci | ci | ci | ci | ci | ci | ci | ci | ci | ci | ci | ci | ci | ci | ci | ci | ci | ci | ci | ci | ci | ci | ci | ci | ci
        · refine lv_tableIn (tgt := 164) (off := 132) hx hb dL_law_32 (by omega) (by omega) (by rw [ci]; rfl) (by decide) ?_
          exact law_c0 hB hR D cI cZ cM hK (by omega) (by omega) (by omega) (by omega) hLN hSt hS hl hNext
        · refine lv_tableIn (tgt := 187) (off := 155) hx hb dL_law_32 (by omega) (by omega) (by rw [ci]; rfl) (by decide) ?_
          exact law_c1 hB hR D cI cZ cM hK (by omega) (by omega) (by omega) (by omega) hLN hSt hS hl hNext
        · refine lv_tableIn (tgt := 200) (off := 168) hx hb dL_law_32 (by omega) (by omega) (by rw [ci]; rfl) (by decide) ?_
          exact law_c2 hB hR D cI cZ cM hK (by omega) (by omega) (by omega) (by omega) hLN hSt hS hl hNext
        · refine lv_tableIn (tgt := 213) (off := 181) hx hb dL_law_32 (by omega) (by omega) (by rw [ci]; rfl) (by decide) ?_
          exact law_c3 hB hR D cI cZ cM hK (by omega) (by omega) (by omega) (by omega) hLN hSt hS hl hNext
        · refine lv_tableIn (tgt := 226) (off := 194) hx hb dL_law_32 (by omega) (by omega) (by rw [ci]; rfl) (by decide) ?_
          exact law_c4 hB hR D cI cZ cM hK (by omega) (by omega) (by omega) (by omega) hLN hSt hS hl hNext
        · refine lv_tableIn (tgt := 259) (off := 227) hx hb dL_law_32 (by omega) (by omega) (by rw [ci]; rfl) (by decide) ?_
          exact law_c5 hB hR D cI cZ cM hK (by omega) (by omega) (by omega) (by omega) hLN hSt hS hl hNext
        · refine lv_tableIn (tgt := 292) (off := 260) hx hb dL_law_32 (by omega) (by omega) (by rw [ci]; rfl) (by decide) ?_
          exact law_c6 hB hR D cI cZ cM hK (by omega) (by omega) (by omega) (by omega) hLN hSt hS hl hNext
        · refine lv_tableIn (tgt := 305) (off := 273) hx hb dL_law_32 (by omega) (by omega) (by rw [ci]; rfl) (by decide) ?_
          exact law_c7 hB hR D cI cZ cM hK (by omega) (by omega) (by omega) (by omega) hLN hSt hS hl hNext
        · refine lv_tableIn (tgt := 338) (off := 306) hx hb dL_law_32 (by omega) (by omega) (by rw [ci]; rfl) (by decide) ?_
          exact law_c8 hB hR D cI cZ cM hK (by omega) (by omega) (by omega) (by omega) hLN hSt hS hl hNext
        · refine lv_tableIn (tgt := 361) (off := 329) hx hb dL_law_32 (by omega) (by omega) (by rw [ci]; rfl) (by decide) ?_
          exact law_c9 hB hR D cI cZ cM hK (by omega) (by omega) (by omega) (by omega) hLN hSt hS hl hNext
        · refine lv_tableIn (tgt := 394) (off := 362) hx hb dL_law_32 (by omega) (by omega) (by rw [ci]; rfl) (by decide) ?_
          exact law_c10 hB hR D cI cZ cM hK (by omega) (by omega) (by omega) (by omega) hLN hSt hS hl hNext
        · refine lv_tableIn (tgt := 407) (off := 375) hx hb dL_law_32 (by omega) (by omega) (by rw [ci]; rfl) (by decide) ?_
          exact law_c11 hB hR D cI cZ cM hK (by omega) (by omega) (by omega) (by omega) hLN hSt hS hl hNext
        · refine lv_tableIn (tgt := 440) (off := 408) hx hb dL_law_32 (by omega) (by omega) (by rw [ci]; rfl) (by decide) ?_
          exact law_c12 hB hR D cI cZ cM hK (by omega) (by omega) (by omega) (by omega) hLN hSt hS hl hNext
        · refine lv_tableIn (tgt := 473) (off := 441) hx hb dL_law_32 (by omega) (by omega) (by rw [ci]; rfl) (by decide) ?_
          exact law_c13 hB hR D cI cZ cM hK (by omega) (by omega) (by omega) (by omega) hLN hSt hS hl hNext
        · refine lv_tableIn (tgt := 486) (off := 454) hx hb dL_law_32 (by omega) (by omega) (by rw [ci]; rfl) (by decide) ?_
          exact law_c14 hB hR D cI cZ cM hK (by omega) (by omega) (by omega) (by omega) hLN hSt hS hl hNext
        · refine lv_tableIn (tgt := 545) (off := 513) hx hb dL_law_32 (by omega) (by omega) (by rw [ci]; rfl) (by decide) ?_
          exact law_c15 hB hR D cI cZ cM hK (by omega) (by omega) (by omega) (by omega) hLN hSt hS hl hNext
        · refine lv_tableIn (tgt := 558) (off := 526) hx hb dL_law_32 (by omega) (by omega) (by rw [ci]; rfl) (by decide) ?_
          exact law_c16 hB hR D cI cZ cM hK (by omega) (by omega) (by omega) (by omega) hLN hSt hS hl hNext
        · refine lv_tableIn (tgt := 581) (off := 549) hx hb dL_law_32 (by omega) (by omega) (by rw [ci]; rfl) (by decide) ?_
          exact law_c17 hB hR D cI cZ cM hK (by omega) (by omega) (by omega) (by omega) hLN hSt hS hl hNext
        · refine lv_tableIn (tgt := 594) (off := 562) hx hb dL_law_32 (by omega) (by omega) (by rw [ci]; rfl) (by decide) ?_
          exact law_c18 hB hR D cI cZ cM hK (by omega) (by omega) (by omega) (by omega) hLN hSt hS hl hNext
        · refine lv_tableIn (tgt := 643) (off := 611) hx hb dL_law_32 (by omega) (by omega) (by rw [ci]; rfl) (by decide) ?_
          exact law_c19 hB hR D cI cZ cM hK (by omega) (by omega) (by omega) (by omega) hLN hSt hS hl hNext
        · refine lv_tableIn (tgt := 676) (off := 644) hx hb dL_law_32 (by omega) (by omega) (by rw [ci]; rfl) (by decide) ?_
          exact law_c20 hB hR D cI cZ cM hK (by omega) (by omega) (by omega) (by omega) hLN hSt hS hl hNext
        · refine lv_tableIn (tgt := 719) (off := 687) hx hb dL_law_32 (by omega) (by omega) (by rw [ci]; rfl) (by decide) ?_
          exact law_c21 hB hR D cI cZ cM hK (by omega) (by omega) (by omega) (by omega) hLN hSt hS hl hNext
        · refine lv_tableIn (tgt := 732) (off := 700) hx hb dL_law_32 (by omega) (by omega) (by rw [ci]; rfl) (by decide) ?_
          exact law_c22 hB hR D cI cZ cM hK (by omega) (by omega) (by omega) (by omega) hLN hSt hS hl hNext
        · refine lv_tableIn (tgt := 755) (off := 723) hx hb dL_law_32 (by omega) (by omega) (by rw [ci]; rfl) (by decide) ?_
          exact law_c23 hB hR D cI cZ cM hK (by omega) (by omega) (by omega) (by omega) hLN hSt hS hl hNext
        · refine lv_tableIn (tgt := 824) (off := 792) hx hb dL_law_32 (by omega) (by omega) (by rw [ci]; rfl) (by decide) ?_
          exact law_c24 hB hR D cI cZ cM hK (by omega) (by omega) (by omega) (by omega) hLN hSt hS hl hNext
        · refine lv_tableIn (tgt := 877) (off := 845) hx hb dL_law_32 (by omega) (by omega) (by rw [ci]; rfl) (by decide) ?_
          exact law_c25 hB hR D cI cZ cM hK (by omega) (by omega) (by omega) (by omega) hLN hSt hS hl hNext
        · refine lv_tableIn (tgt := 900) (off := 868) hx hb dL_law_32 (by omega) (by omega) (by rw [ci]; rfl) (by decide) ?_
          exact law_c26 hB hR D cI cZ cM hK (by omega) (by omega) (by omega) (by omega) hLN hSt hS hl hNext
        · refine lv_tableIn (tgt := 923) (off := 891) hx hb dL_law_32 (by omega) (by omega) (by rw [ci]; rfl) (by decide) ?_
          exact law_c27 hB hR D cI cZ cM hK (by omega) (by omega) (by omega) (by omega) hLN hSt hS hl hNext
        · refine lv_tableIn (tgt := 946) (off := 914) hx hb dL_law_32 (by omega) (by omega) (by rw [ci]; rfl) (by decide) ?_
          exact law_c28 hB hR D cI cZ cM hK (by omega) (by omega) (by omega) (by omega) hLN hSt hS hl hNext
