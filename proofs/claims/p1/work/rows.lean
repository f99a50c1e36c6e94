section
-- ===== PART A: goes FIRST, ahead of the names: the tables' words, and 'selects' of the private methods out of them =====
/-- a private method of a class that the tables say can be made, by its rows of tables_1 -/
def lw_okq (q : MethodName × Nat) : Prop := (q.1.cls ≠ "java/lang/invoke/MethodHandle" ∧ q.1.cls ≠ "java/lang/invoke/VarHandle") ∧ Cond.instantiable q.1.cls q.2 ∈ tables_1 ∧ Cond.privateMethod q.1 ∈ tables_1 ∧ Cond.instanceMethod q.1 ∈ tables_1
theorem lw_p0 : lw_okq (⟨"PunchedTicket", "forgetActs", "()V"⟩, 17) := ⟨⟨by decide +kernel, by decide +kernel⟩, List.mem_of_getElem? (i := 10) (by decide +kernel), List.mem_of_getElem? (i := 236) (by decide +kernel), List.mem_of_getElem? (i := 237) (by decide +kernel)⟩
theorem lw_p1 : lw_okq (⟨"PunchedTicket", "rideOf", "(I)I"⟩, 17) := ⟨⟨by decide +kernel, by decide +kernel⟩, List.mem_of_getElem? (i := 10) (by decide +kernel), List.mem_of_getElem? (i := 256) (by decide +kernel), List.mem_of_getElem? (i := 257) (by decide +kernel)⟩
theorem lw_p2 : lw_okq (⟨"PunchedTicket", "rememberAct", "()V"⟩, 17) := ⟨⟨by decide +kernel, by decide +kernel⟩, List.mem_of_getElem? (i := 10) (by decide +kernel), List.mem_of_getElem? (i := 295) (by decide +kernel), List.mem_of_getElem? (i := 296) (by decide +kernel)⟩
theorem lw_p3 : lw_okq (⟨"PunchedTicket", "keepIn", "([LPunchedTicket$Moment;I)V"⟩, 17) := ⟨⟨by decide +kernel, by decide +kernel⟩, List.mem_of_getElem? (i := 10) (by decide +kernel), List.mem_of_getElem? (i := 299) (by decide +kernel), List.mem_of_getElem? (i := 300) (by decide +kernel)⟩
theorem lw_p4 : lw_okq (⟨"PunchedTicket", "pairRefusal", "(II)I"⟩, 17) := ⟨⟨by decide +kernel, by decide +kernel⟩, List.mem_of_getElem? (i := 10) (by decide +kernel), List.mem_of_getElem? (i := 364) (by decide +kernel), List.mem_of_getElem? (i := 365) (by decide +kernel)⟩
theorem lw_p5 : lw_okq (⟨"PunchedTicket", "firstGift", "(IIII)I"⟩, 17) := ⟨⟨by decide +kernel, by decide +kernel⟩, List.mem_of_getElem? (i := 10) (by decide +kernel), List.mem_of_getElem? (i := 411) (by decide +kernel), List.mem_of_getElem? (i := 412) (by decide +kernel)⟩
theorem lw_p6 : lw_okq (⟨"PunchedTicket", "firstTwoGifts", "(II)I"⟩, 17) := ⟨⟨by decide +kernel, by decide +kernel⟩, List.mem_of_getElem? (i := 10) (by decide +kernel), List.mem_of_getElem? (i := 415) (by decide +kernel), List.mem_of_getElem? (i := 416) (by decide +kernel)⟩
theorem lw_p7 : lw_okq (⟨"PunchedTicket", "gladIfChanged", "(II)I"⟩, 17) := ⟨⟨by decide +kernel, by decide +kernel⟩, List.mem_of_getElem? (i := 10) (by decide +kernel), List.mem_of_getElem? (i := 451) (by decide +kernel), List.mem_of_getElem? (i := 452) (by decide +kernel)⟩
theorem lw_p8 : lw_okq (⟨"PunchedTicket", "gladWithOnly", "(I)I"⟩, 17) := ⟨⟨by decide +kernel, by decide +kernel⟩, List.mem_of_getElem? (i := 10) (by decide +kernel), List.mem_of_getElem? (i := 476) (by decide +kernel), List.mem_of_getElem? (i := 477) (by decide +kernel)⟩
theorem lw_p9 : lw_okq (⟨"PunchedTicket", "seatOfUnusedBlank", "(II)I"⟩, 17) := ⟨⟨by decide +kernel, by decide +kernel⟩, List.mem_of_getElem? (i := 10) (by decide +kernel), List.mem_of_getElem? (i := 487) (by decide +kernel), List.mem_of_getElem? (i := 488) (by decide +kernel)⟩
theorem lw_p10 : lw_okq (⟨"PunchedTicket", "firstUsedBlank", "(III)I"⟩, 17) := ⟨⟨by decide +kernel, by decide +kernel⟩, List.mem_of_getElem? (i := 10) (by decide +kernel), List.mem_of_getElem? (i := 495) (by decide +kernel), List.mem_of_getElem? (i := 496) (by decide +kernel)⟩
theorem lw_p11 : lw_okq (⟨"PunchedTicket", "seatOfUsedBlank", "(IIII)I"⟩, 17) := ⟨⟨by decide +kernel, by decide +kernel⟩, List.mem_of_getElem? (i := 10) (by decide +kernel), List.mem_of_getElem? (i := 499) (by decide +kernel), List.mem_of_getElem? (i := 500) (by decide +kernel)⟩
theorem lw_p12 : lw_okq (⟨"PunchedTicket", "trialMakesSeenSo", "()Z"⟩, 17) := ⟨⟨by decide +kernel, by decide +kernel⟩, List.mem_of_getElem? (i := 10) (by decide +kernel), List.mem_of_getElem? (i := 522) (by decide +kernel), List.mem_of_getElem? (i := 523) (by decide +kernel)⟩
theorem lw_p13 : lw_okq (⟨"PunchedTicket", "seenIsSoOn", "(I)Z"⟩, 17) := ⟨⟨by decide +kernel, by decide +kernel⟩, List.mem_of_getElem? (i := 10) (by decide +kernel), List.mem_of_getElem? (i := 526) (by decide +kernel), List.mem_of_getElem? (i := 527) (by decide +kernel)⟩
theorem lw_p14 : lw_okq (⟨"PunchedTicket", "endsAtAfterLosing", "(III)Z"⟩, 17) := ⟨⟨by decide +kernel, by decide +kernel⟩, List.mem_of_getElem? (i := 10) (by decide +kernel), List.mem_of_getElem? (i := 537) (by decide +kernel), List.mem_of_getElem? (i := 538) (by decide +kernel)⟩
theorem lw_p15 : lw_okq (⟨"PunchedTicketModel", "readText", "()I"⟩, 30) := ⟨⟨by decide +kernel, by decide +kernel⟩, List.mem_of_getElem? (i := 568) (by decide +kernel), List.mem_of_getElem? (i := 682) (by decide +kernel), List.mem_of_getElem? (i := 683) (by decide +kernel)⟩
def lw_privs_1 : List (MethodName × Nat) := [(⟨"PunchedTicket", "forgetActs", "()V"⟩, 17), (⟨"PunchedTicket", "rideOf", "(I)I"⟩, 17), (⟨"PunchedTicket", "rememberAct", "()V"⟩, 17), (⟨"PunchedTicket", "keepIn", "([LPunchedTicket$Moment;I)V"⟩, 17), (⟨"PunchedTicket", "pairRefusal", "(II)I"⟩, 17), (⟨"PunchedTicket", "firstGift", "(IIII)I"⟩, 17), (⟨"PunchedTicket", "firstTwoGifts", "(II)I"⟩, 17), (⟨"PunchedTicket", "gladIfChanged", "(II)I"⟩, 17), (⟨"PunchedTicket", "gladWithOnly", "(I)I"⟩, 17), (⟨"PunchedTicket", "seatOfUnusedBlank", "(II)I"⟩, 17), (⟨"PunchedTicket", "firstUsedBlank", "(III)I"⟩, 17), (⟨"PunchedTicket", "seatOfUsedBlank", "(IIII)I"⟩, 17), (⟨"PunchedTicket", "trialMakesSeenSo", "()Z"⟩, 17), (⟨"PunchedTicket", "seenIsSoOn", "(I)Z"⟩, 17), (⟨"PunchedTicket", "endsAtAfterLosing", "(III)Z"⟩, 17), (⟨"PunchedTicketModel", "readText", "()I"⟩, 30)]
theorem lw_r1 : ∀ q ∈ lw_privs_1, lw_okq q := List.forall_mem_cons.mpr ⟨lw_p0, List.forall_mem_cons.mpr ⟨lw_p1, List.forall_mem_cons.mpr ⟨lw_p2, List.forall_mem_cons.mpr ⟨lw_p3, List.forall_mem_cons.mpr ⟨lw_p4, List.forall_mem_cons.mpr ⟨lw_p5, List.forall_mem_cons.mpr ⟨lw_p6, List.forall_mem_cons.mpr ⟨lw_p7, List.forall_mem_cons.mpr ⟨lw_p8, List.forall_mem_cons.mpr ⟨lw_p9, List.forall_mem_cons.mpr ⟨lw_p10, List.forall_mem_cons.mpr ⟨lw_p11, List.forall_mem_cons.mpr ⟨lw_p12, List.forall_mem_cons.mpr ⟨lw_p13, List.forall_mem_cons.mpr ⟨lw_p14, List.forall_mem_cons.mpr ⟨lw_p15, fun _ h => absurd h List.not_mem_nil⟩⟩⟩⟩⟩⟩⟩⟩⟩⟩⟩⟩⟩⟩⟩⟩
theorem lw_p16 : lw_okq (⟨"PunchedTicketModel", "figure", "(II)I"⟩, 30) := ⟨⟨by decide +kernel, by decide +kernel⟩, List.mem_of_getElem? (i := 568) (by decide +kernel), List.mem_of_getElem? (i := 686) (by decide +kernel), List.mem_of_getElem? (i := 687) (by decide +kernel)⟩
theorem lw_p17 : lw_okq (⟨"PunchedTicketModel", "isPerson", "(I)Z"⟩, 30) := ⟨⟨by decide +kernel, by decide +kernel⟩, List.mem_of_getElem? (i := 568) (by decide +kernel), List.mem_of_getElem? (i := 698) (by decide +kernel), List.mem_of_getElem? (i := 699) (by decide +kernel)⟩
theorem lw_p18 : lw_okq (⟨"PunchedTicketModel", "isGone", "(I)Z"⟩, 30) := ⟨⟨by decide +kernel, by decide +kernel⟩, List.mem_of_getElem? (i := 568) (by decide +kernel), List.mem_of_getElem? (i := 702) (by decide +kernel), List.mem_of_getElem? (i := 703) (by decide +kernel)⟩
theorem lw_p19 : lw_okq (⟨"PunchedTicketModel", "holder", "(I)I"⟩, 30) := ⟨⟨by decide +kernel, by decide +kernel⟩, List.mem_of_getElem? (i := 568) (by decide +kernel), List.mem_of_getElem? (i := 706) (by decide +kernel), List.mem_of_getElem? (i := 707) (by decide +kernel)⟩
theorem lw_p20 : lw_okq (⟨"PunchedTicketModel", "goesBy", "(III)I"⟩, 30) := ⟨⟨by decide +kernel, by decide +kernel⟩, List.mem_of_getElem? (i := 568) (by decide +kernel), List.mem_of_getElem? (i := 710) (by decide +kernel), List.mem_of_getElem? (i := 711) (by decide +kernel)⟩
theorem lw_p21 : lw_okq (⟨"PunchedTicketModel", "isTicket", "(I)Z"⟩, 30) := ⟨⟨by decide +kernel, by decide +kernel⟩, List.mem_of_getElem? (i := 568) (by decide +kernel), List.mem_of_getElem? (i := 718) (by decide +kernel), List.mem_of_getElem? (i := 719) (by decide +kernel)⟩
theorem lw_p22 : lw_okq (⟨"PunchedTicketModel", "keepAct", "()V"⟩, 30) := ⟨⟨by decide +kernel, by decide +kernel⟩, List.mem_of_getElem? (i := 568) (by decide +kernel), List.mem_of_getElem? (i := 726) (by decide +kernel), List.mem_of_getElem? (i := 727) (by decide +kernel)⟩
theorem lw_p23 : lw_okq (⟨"PunchedTicketModel", "pass", "(II)I"⟩, 30) := ⟨⟨by decide +kernel, by decide +kernel⟩, List.mem_of_getElem? (i := 568) (by decide +kernel), List.mem_of_getElem? (i := 730) (by decide +kernel), List.mem_of_getElem? (i := 731) (by decide +kernel)⟩
theorem lw_p24 : lw_okq (⟨"PunchedTicketModel", "use", "(III)V"⟩, 30) := ⟨⟨by decide +kernel, by decide +kernel⟩, List.mem_of_getElem? (i := 568) (by decide +kernel), List.mem_of_getElem? (i := 734) (by decide +kernel), List.mem_of_getElem? (i := 735) (by decide +kernel)⟩
theorem lw_p25 : lw_okq (⟨"PunchedTicketModel", "canChange", "(II)Z"⟩, 30) := ⟨⟨by decide +kernel, by decide +kernel⟩, List.mem_of_getElem? (i := 568) (by decide +kernel), List.mem_of_getElem? (i := 750) (by decide +kernel), List.mem_of_getElem? (i := 751) (by decide +kernel)⟩
theorem lw_p26 : lw_okq (⟨"PunchedTicketModel", "changeOn", "(III)V"⟩, 30) := ⟨⟨by decide +kernel, by decide +kernel⟩, List.mem_of_getElem? (i := 568) (by decide +kernel), List.mem_of_getElem? (i := 754) (by decide +kernel), List.mem_of_getElem? (i := 755) (by decide +kernel)⟩
theorem lw_p27 : lw_okq (⟨"PunchedTicketModel", "layTrial", "()V"⟩, 30) := ⟨⟨by decide +kernel, by decide +kernel⟩, List.mem_of_getElem? (i := 568) (by decide +kernel), List.mem_of_getElem? (i := 767) (by decide +kernel), List.mem_of_getElem? (i := 768) (by decide +kernel)⟩
theorem lw_p28 : lw_okq (⟨"PunchedTicketModel", "meetOf", "(II)I"⟩, 30) := ⟨⟨by decide +kernel, by decide +kernel⟩, List.mem_of_getElem? (i := 568) (by decide +kernel), List.mem_of_getElem? (i := 775) (by decide +kernel), List.mem_of_getElem? (i := 776) (by decide +kernel)⟩
theorem lw_p29 : lw_okq (⟨"PunchedTicketModel", "areTogether", "(III)Z"⟩, 30) := ⟨⟨by decide +kernel, by decide +kernel⟩, List.mem_of_getElem? (i := 568) (by decide +kernel), List.mem_of_getElem? (i := 779) (by decide +kernel), List.mem_of_getElem? (i := 780) (by decide +kernel)⟩
theorem lw_p30 : lw_okq (⟨"PunchedTicketModel", "isDouble", "(I)Z"⟩, 30) := ⟨⟨by decide +kernel, by decide +kernel⟩, List.mem_of_getElem? (i := 568) (by decide +kernel), List.mem_of_getElem? (i := 790) (by decide +kernel), List.mem_of_getElem? (i := 791) (by decide +kernel)⟩
theorem lw_p31 : lw_okq (⟨"PunchedTicketModel", "giveTrial", "(II)Z"⟩, 30) := ⟨⟨by decide +kernel, by decide +kernel⟩, List.mem_of_getElem? (i := 568) (by decide +kernel), List.mem_of_getElem? (i := 798) (by decide +kernel), List.mem_of_getElem? (i := 799) (by decide +kernel)⟩
def lw_privs_2 : List (MethodName × Nat) := [(⟨"PunchedTicketModel", "figure", "(II)I"⟩, 30), (⟨"PunchedTicketModel", "isPerson", "(I)Z"⟩, 30), (⟨"PunchedTicketModel", "isGone", "(I)Z"⟩, 30), (⟨"PunchedTicketModel", "holder", "(I)I"⟩, 30), (⟨"PunchedTicketModel", "goesBy", "(III)I"⟩, 30), (⟨"PunchedTicketModel", "isTicket", "(I)Z"⟩, 30), (⟨"PunchedTicketModel", "keepAct", "()V"⟩, 30), (⟨"PunchedTicketModel", "pass", "(II)I"⟩, 30), (⟨"PunchedTicketModel", "use", "(III)V"⟩, 30), (⟨"PunchedTicketModel", "canChange", "(II)Z"⟩, 30), (⟨"PunchedTicketModel", "changeOn", "(III)V"⟩, 30), (⟨"PunchedTicketModel", "layTrial", "()V"⟩, 30), (⟨"PunchedTicketModel", "meetOf", "(II)I"⟩, 30), (⟨"PunchedTicketModel", "areTogether", "(III)Z"⟩, 30), (⟨"PunchedTicketModel", "isDouble", "(I)Z"⟩, 30), (⟨"PunchedTicketModel", "giveTrial", "(II)Z"⟩, 30)]
theorem lw_r2 : ∀ q ∈ lw_privs_2, lw_okq q := List.forall_mem_cons.mpr ⟨lw_p16, List.forall_mem_cons.mpr ⟨lw_p17, List.forall_mem_cons.mpr ⟨lw_p18, List.forall_mem_cons.mpr ⟨lw_p19, List.forall_mem_cons.mpr ⟨lw_p20, List.forall_mem_cons.mpr ⟨lw_p21, List.forall_mem_cons.mpr ⟨lw_p22, List.forall_mem_cons.mpr ⟨lw_p23, List.forall_mem_cons.mpr ⟨lw_p24, List.forall_mem_cons.mpr ⟨lw_p25, List.forall_mem_cons.mpr ⟨lw_p26, List.forall_mem_cons.mpr ⟨lw_p27, List.forall_mem_cons.mpr ⟨lw_p28, List.forall_mem_cons.mpr ⟨lw_p29, List.forall_mem_cons.mpr ⟨lw_p30, List.forall_mem_cons.mpr ⟨lw_p31, fun _ h => absurd h List.not_mem_nil⟩⟩⟩⟩⟩⟩⟩⟩⟩⟩⟩⟩⟩⟩⟩⟩
theorem lw_p32 : lw_okq (⟨"PunchedTicketModel", "gladWithout", "(I)I"⟩, 30) := ⟨⟨by decide +kernel, by decide +kernel⟩, List.mem_of_getElem? (i := 568) (by decide +kernel), List.mem_of_getElem? (i := 806) (by decide +kernel), List.mem_of_getElem? (i := 807) (by decide +kernel)⟩
theorem lw_p33 : lw_okq (⟨"PunchedTicketModel", "loseTrial", "(I)V"⟩, 30) := ⟨⟨by decide +kernel, by decide +kernel⟩, List.mem_of_getElem? (i := 568) (by decide +kernel), List.mem_of_getElem? (i := 810) (by decide +kernel), List.mem_of_getElem? (i := 811) (by decide +kernel)⟩
theorem lw_p34 : lw_okq (⟨"PunchedTicketModel", "passAll", "(I)I"⟩, 30) := ⟨⟨by decide +kernel, by decide +kernel⟩, List.mem_of_getElem? (i := 568) (by decide +kernel), List.mem_of_getElem? (i := 814) (by decide +kernel), List.mem_of_getElem? (i := 815) (by decide +kernel)⟩
theorem lw_p35 : lw_okq (⟨"PunchedTicketModel", "gladOf", "()I"⟩, 30) := ⟨⟨by decide +kernel, by decide +kernel⟩, List.mem_of_getElem? (i := 568) (by decide +kernel), List.mem_of_getElem? (i := 821) (by decide +kernel), List.mem_of_getElem? (i := 822) (by decide +kernel)⟩
theorem lw_p36 : lw_okq (⟨"PunchedTicketModel", "goneNow", "()I"⟩, 30) := ⟨⟨by decide +kernel, by decide +kernel⟩, List.mem_of_getElem? (i := 568) (by decide +kernel), List.mem_of_getElem? (i := 838) (by decide +kernel), List.mem_of_getElem? (i := 839) (by decide +kernel)⟩
theorem lw_p37 : lw_okq (⟨"PunchedTicketModel", "isBlank", "(III)Z"⟩, 30) := ⟨⟨by decide +kernel, by decide +kernel⟩, List.mem_of_getElem? (i := 568) (by decide +kernel), List.mem_of_getElem? (i := 853) (by decide +kernel), List.mem_of_getElem? (i := 854) (by decide +kernel)⟩
theorem lw_p38 : lw_okq (⟨"PunchedTicketModel", "isSeen", "()Z"⟩, 30) := ⟨⟨by decide +kernel, by decide +kernel⟩, List.mem_of_getElem? (i := 568) (by decide +kernel), List.mem_of_getElem? (i := 869) (by decide +kernel), List.mem_of_getElem? (i := 870) (by decide +kernel)⟩
def lw_privs_3 : List (MethodName × Nat) := [(⟨"PunchedTicketModel", "gladWithout", "(I)I"⟩, 30), (⟨"PunchedTicketModel", "loseTrial", "(I)V"⟩, 30), (⟨"PunchedTicketModel", "passAll", "(I)I"⟩, 30), (⟨"PunchedTicketModel", "gladOf", "()I"⟩, 30), (⟨"PunchedTicketModel", "goneNow", "()I"⟩, 30), (⟨"PunchedTicketModel", "isBlank", "(III)Z"⟩, 30), (⟨"PunchedTicketModel", "isSeen", "()Z"⟩, 30)]
theorem lw_r3 : ∀ q ∈ lw_privs_3, lw_okq q := List.forall_mem_cons.mpr ⟨lw_p32, List.forall_mem_cons.mpr ⟨lw_p33, List.forall_mem_cons.mpr ⟨lw_p34, List.forall_mem_cons.mpr ⟨lw_p35, List.forall_mem_cons.mpr ⟨lw_p36, List.forall_mem_cons.mpr ⟨lw_p37, List.forall_mem_cons.mpr ⟨lw_p38, fun _ h => absurd h List.not_mem_nil⟩⟩⟩⟩⟩⟩⟩
def lw_privs : List (MethodName × Nat) := lw_privs_1 ++ (lw_privs_2 ++ (lw_privs_3))
def lw_tbl : List Cond := k2_sels lw_privs ++ tables_1
theorem lw_privs_ok : ∀ q ∈ lw_privs, lw_okq q := by
  show ∀ q ∈ lw_privs_1 ++ (lw_privs_2 ++ (lw_privs_3)), lw_okq q
  exact List.forall_mem_append.mpr ⟨lw_r1, List.forall_mem_append.mpr ⟨lw_r2, lw_r3⟩⟩
-- ===== end of PART A; then your names; then what follows =====
end
section
/-! ===== BEGIN words of one list among another's, by their places ===== -/
theorem goodIn_r {big : List Cond} (ws : List Cond) (ps : List Nat) (hp : ws = ps.filterMap (fun i => big[i]?)) (h : ws.all goodWord = true) : GoodIn big ws := by
  intro w hw
  have h1 := List.all_eq_true.mp h w hw
  rw [hp] at hw
  obtain ⟨i, -, hi⟩ := List.mem_filterMap.mp hw
  have hm : w ∈ big := by first | exact List.mem_of_getElem? hi | exact List.getElem?_mem hi
  exact ⟨hm, good_of_word h1⟩
theorem goodIn_app {big a b : List Cond} (ha : GoodIn big a) (hb : GoodIn big b) : GoodIn big (a ++ b) := fun w h => (List.mem_append.mp h).elim (ha w) (hb w)
theorem goodIn_ca {big a b : List Cond} {c : Cond} (ha : GoodIn big (c :: a)) (hb : GoodIn big b) : GoodIn big (c :: (a ++ b)) := fun w h => (List.mem_cons.mp h).elim (fun e => ha w (List.mem_cons.mpr (Or.inl e))) (fun h => (List.mem_append.mp h).elim (fun h => ha w (List.mem_cons.mpr (Or.inr h))) (hb w))
theorem goodIn_sub {big ws : List Cond} (hm : ∀ w ∈ ws, w ∈ big) (h : ws.all goodWord = true) : GoodIn big ws := fun w hw => ⟨hm w hw, good_of_word (List.all_eq_true.mp h w hw)⟩
/-! ===== END ===== -/

/-! ===== BEGIN printed: names, fields, word lists, decode rows ===== -/
def RX0 : String := "PunchedTicket$Line"
def TX0 : u_T := fun k => match k with
  | 0 => ("PunchedTicket$Line", "people", "I", false)
  | 1 => ("PunchedTicket$Line", "tickets", "I", false)
  | 2 => ("PunchedTicket$Line", "home", "[I", true)
  | 3 => ("PunchedTicket$Line", "liked", "[I", true)
  | 4 => ("PunchedTicket$Line", "kind", "[I", true)
  | 5 => ("PunchedTicket$Line", "forDay", "[I", true)
  | 6 => ("PunchedTicket$Line", "from", "[I", true)
  | 7 => ("PunchedTicket$Line", "to", "[I", true)
  | 8 => ("PunchedTicket$Line", "seat", "[I", true)
  | _ => ("PunchedTicket$Line", "holder", "[I", true)
def tyX0 : Nat → FieldType := fun k => match k with
  | 0 => .int
  | 1 => .int
  | 2 => .array .int
  | 3 => .array .int
  | 4 => .array .int
  | 5 => .array .int
  | 6 => .array .int
  | 7 => .array .int
  | 8 => .array .int
  | _ => .array .int
abbrev wsX00 : List Cond := u_ws RX0 TX0 10
theorem nmX0 : ∀ a, a < 10 → ∀ b, b < 10 → a ≠ b → (TX0 a).2.1 ≠ (TX0 b).2.1 := by decide +kernel
theorem tyX0_ok : ∀ k, k < 10 → parseFieldDescriptor (TX0 k).2.2.1 = some (tyX0 k) := by decide +kernel
abbrev cX0_init : ByteArray := prog_2_method_1_code
def yX0_init : MethodName := ⟨RX0, "<init>", "()V"⟩
abbrev cX0_hasPerson : ByteArray := prog_2_method_2_code
def yX0_hasPerson : MethodName := ⟨RX0, "hasPerson", "(I)Z"⟩
abbrev cX0_copy : ByteArray := prog_2_method_3_code
def yX0_copy : MethodName := ⟨RX0, "copy", "(LPunchedTicket$Line;)V"⟩
abbrev cX0_read : ByteArray := prog_2_method_4_code
def yX0_read : MethodName := ⟨RX0, "read", "([II)I"⟩
abbrev cX0_partSize : ByteArray := prog_2_method_5_code
def yX0_partSize : MethodName := ⟨RX0, "partSize", "(I)I"⟩
abbrev cX0_partFault : ByteArray := prog_2_method_6_code
def yX0_partFault : MethodName := ⟨RX0, "partFault", "([IIII)I"⟩
abbrev cX0_figureFits : ByteArray := prog_2_method_7_code
def yX0_figureFits : MethodName := ⟨RX0, "figureFits", "([IIII)Z"⟩
abbrev cX0_takePart : ByteArray := prog_2_method_8_code
def yX0_takePart : MethodName := ⟨RX0, "takePart", "([III)V"⟩
def RX1 : String := "PunchedTicket$Moment"
def TX1 : u_T := fun k => match k with
  | 0 => ("PunchedTicket$Moment", "line", "LPunchedTicket$Line;", true)
  | 1 => ("PunchedTicket$Moment", "day", "I", false)
  | 2 => ("PunchedTicket$Moment", "tickets", "I", false)
  | 3 => ("PunchedTicket$Moment", "returns", "I", false)
  | 4 => ("PunchedTicket$Moment", "gone", "I", false)
  | 5 => ("PunchedTicket$Moment", "at", "[I", true)
  | 6 => ("PunchedTicket$Moment", "forDay", "[I", true)
  | _ => ("PunchedTicket$Moment", "holder", "[I", true)
def tyX1 : Nat → FieldType := fun k => match k with
  | 0 => .object "PunchedTicket$Line"
  | 1 => .int
  | 2 => .int
  | 3 => .int
  | 4 => .int
  | 5 => .array .int
  | 6 => .array .int
  | _ => .array .int
abbrev wsX10 : List Cond := u_ws RX1 TX1 8
theorem nmX1 : ∀ a, a < 8 → ∀ b, b < 8 → a ≠ b → (TX1 a).2.1 ≠ (TX1 b).2.1 := by decide +kernel
theorem tyX1_ok : ∀ k, k < 8 → parseFieldDescriptor (TX1 k).2.2.1 = some (tyX1 k) := by decide +kernel
abbrev cX1_init : ByteArray := prog_3_method_1_code
def yX1_init : MethodName := ⟨RX1, "<init>", "(LPunchedTicket$Line;)V"⟩
abbrev cX1_begin : ByteArray := prog_3_method_2_code
def yX1_begin : MethodName := ⟨RX1, "begin", "()V"⟩
abbrev cX1_copy : ByteArray := prog_3_method_3_code
def yX1_copy : MethodName := ⟨RX1, "copy", "(LPunchedTicket$Moment;)V"⟩
abbrev cX1_hasTicket : ByteArray := prog_3_method_4_code
def yX1_hasTicket : MethodName := ⟨RX1, "hasTicket", "(I)Z"⟩
abbrev cX1_isGone : ByteArray := prog_3_method_5_code
def yX1_isGone : MethodName := ⟨RX1, "isGone", "(I)Z"⟩
abbrev cX1_isReturn : ByteArray := prog_3_method_6_code
def yX1_isReturn : MethodName := ⟨RX1, "isReturn", "(I)Z"⟩
abbrev cX1_notGone : ByteArray := prog_3_method_7_code
def yX1_notGone : MethodName := ⟨RX1, "notGone", "()I"⟩
abbrev cX1_from : ByteArray := prog_3_method_8_code
def yX1_from : MethodName := ⟨RX1, "from", "(I)I"⟩
abbrev cX1_to : ByteArray := prog_3_method_9_code
def yX1_to : MethodName := ⟨RX1, "to", "(I)I"⟩
abbrev cX1_canBeGiven : ByteArray := prog_3_method_10_code
def yX1_canBeGiven : MethodName := ⟨RX1, "canBeGiven", "(II)Z"⟩
abbrev cX1_canBeChanged : ByteArray := prog_3_method_11_code
def yX1_canBeChanged : MethodName := ⟨RX1, "canBeChanged", "(II)Z"⟩
abbrev cX1_swapHolders : ByteArray := prog_3_method_12_code
def yX1_swapHolders : MethodName := ⟨RX1, "swapHolders", "(II)V"⟩
abbrev cX1_heldBy : ByteArray := prog_3_method_13_code
def yX1_heldBy : MethodName := ⟨RX1, "heldBy", "(I)I"⟩
abbrev cX1_gladNow : ByteArray := prog_3_method_14_code
def yX1_gladNow : MethodName := ⟨RX1, "gladNow", "()I"⟩
abbrev cX1_findRides : ByteArray := prog_3_method_15_code
def yX1_findRides : MethodName := ⟨RX1, "findRides", "([I)V"⟩
abbrev cX1_canTake : ByteArray := prog_3_method_16_code
def yX1_canTake : MethodName := ⟨RX1, "canTake", "(II)Z"⟩
abbrev cX1_passDay : ByteArray := prog_3_method_17_code
def yX1_passDay : MethodName := ⟨RX1, "passDay", "([I)I"⟩
abbrev cX1_useTicket : ByteArray := prog_3_method_18_code
def yX1_useTicket : MethodName := ⟨RX1, "useTicket", "(II)V"⟩
def RX2 : String := "PunchedTicket$Trial"
def TX2 : u_T := fun k => match k with
  | 0 => ("PunchedTicket$Trial", "line", "LPunchedTicket$Line;", true)
  | 1 => ("PunchedTicket$Trial", "moment", "LPunchedTicket$Moment;", true)
  | _ => ("PunchedTicket$Trial", "rides", "[I", true)
def tyX2 : Nat → FieldType := fun k => match k with
  | 0 => .object "PunchedTicket$Line"
  | 1 => .object "PunchedTicket$Moment"
  | _ => .array .int
abbrev wsX20 : List Cond := u_ws RX2 TX2 3
theorem nmX2 : ∀ a, a < 3 → ∀ b, b < 3 → a ≠ b → (TX2 a).2.1 ≠ (TX2 b).2.1 := by decide +kernel
theorem tyX2_ok : ∀ k, k < 3 → parseFieldDescriptor (TX2 k).2.2.1 = some (tyX2 k) := by decide +kernel
abbrev cX2_init : ByteArray := prog_4_method_1_code
def yX2_init : MethodName := ⟨RX2, "<init>", "(LPunchedTicket$Line;)V"⟩
abbrev cX2_start : ByteArray := prog_4_method_2_code
def yX2_start : MethodName := ⟨RX2, "start", "(LPunchedTicket$Moment;)V"⟩
abbrev cX2_addBlank : ByteArray := prog_4_method_3_code
def yX2_addBlank : MethodName := ⟨RX2, "addBlank", "(IIII)I"⟩
abbrev cX2_passDaysTo : ByteArray := prog_4_method_4_code
def yX2_passDaysTo : MethodName := ⟨RX2, "passDaysTo", "(I)V"⟩
abbrev cX2_journeysToEnd : ByteArray := prog_4_method_5_code
def yX2_journeysToEnd : MethodName := ⟨RX2, "journeysToEnd", "()I"⟩
abbrev cX2_gladAtEnd : ByteArray := prog_4_method_6_code
def yX2_gladAtEnd : MethodName := ⟨RX2, "gladAtEnd", "()I"⟩
abbrev cX2_firstMeeting : ByteArray := prog_4_method_7_code
def yX2_firstMeeting : MethodName := ⟨RX2, "firstMeeting", "(II)I"⟩
abbrev cX2_firstDouble : ByteArray := prog_4_method_8_code
def yX2_firstDouble : MethodName := ⟨RX2, "firstDouble", "()I"⟩
abbrev cX2_wentTogether : ByteArray := prog_4_method_9_code
def yX2_wentTogether : MethodName := ⟨RX2, "wentTogether", "(II)Z"⟩
abbrev cX2_lowEnd : ByteArray := prog_4_method_10_code
def yX2_lowEnd : MethodName := ⟨RX2, "lowEnd", "(I)I"⟩
abbrev cX2_highEnd : ByteArray := prog_4_method_11_code
def yX2_highEnd : MethodName := ⟨RX2, "highEnd", "(I)I"⟩
abbrev cX2_barredSeats : ByteArray := prog_4_method_12_code
def yX2_barredSeats : MethodName := ⟨RX2, "barredSeats", "(I)I"⟩
abbrev cX2_barredByPair : ByteArray := prog_4_method_13_code
def yX2_barredByPair : MethodName := ⟨RX2, "barredByPair", "(III)I"⟩
def RX3 : String := "PunchedTicket"
def TX3 : u_T := fun k => match k with
  | 0 => ("PunchedTicket", "text", "[I", true)
  | 1 => ("PunchedTicket", "letters", "I", false)
  | 2 => ("PunchedTicket", "told", "LPunchedTicket$Line;", true)
  | 3 => ("PunchedTicket", "draft", "LPunchedTicket$Line;", true)
  | 4 => ("PunchedTicket", "now", "LPunchedTicket$Moment;", true)
  | 5 => ("PunchedTicket", "acts", "[LPunchedTicket$Moment;", true)
  | 6 => ("PunchedTicket", "firstAct", "I", false)
  | 7 => ("PunchedTicket", "actsInRow", "I", false)
  | 8 => ("PunchedTicket", "kept", "[LPunchedTicket$Moment;", true)
  | 9 => ("PunchedTicket", "keptSlots", "I", false)
  | 10 => ("PunchedTicket", "seenPerson", "[I", true)
  | 11 => ("PunchedTicket", "seenStop", "[I", true)
  | 12 => ("PunchedTicket", "seenDay", "[I", true)
  | 13 => ("PunchedTicket", "seenCount", "I", false)
  | 14 => ("PunchedTicket", "theSeed", "J", false)
  | 15 => ("PunchedTicket", "trial", "LPunchedTicket$Trial;", true)
  | _ => ("PunchedTicket", "idleAt", "[I", true)
def tyX3 : Nat → FieldType := fun k => match k with
  | 0 => .array .int
  | 1 => .int
  | 2 => .object "PunchedTicket$Line"
  | 3 => .object "PunchedTicket$Line"
  | 4 => .object "PunchedTicket$Moment"
  | 5 => .array (.object "PunchedTicket$Moment")
  | 6 => .int
  | 7 => .int
  | 8 => .array (.object "PunchedTicket$Moment")
  | 9 => .int
  | 10 => .array .int
  | 11 => .array .int
  | 12 => .array .int
  | 13 => .int
  | 14 => .long
  | 15 => .object "PunchedTicket$Trial"
  | _ => .array .int
abbrev wsX30 : List Cond := u_ws RX3 TX3 17
theorem nmX3 : ∀ a, a < 17 → ∀ b, b < 17 → a ≠ b → (TX3 a).2.1 ≠ (TX3 b).2.1 := by decide +kernel
theorem tyX3_ok : ∀ k, k < 17 → parseFieldDescriptor (TX3 k).2.2.1 = some (tyX3 k) := by decide +kernel
abbrev cX3_init : ByteArray := prog_1_method_1_code
def yX3_init : MethodName := ⟨RX3, "<init>", "()V"⟩
abbrev cX3_write : ByteArray := prog_1_method_2_code
def yX3_write : MethodName := ⟨RX3, "write", "(I)I"⟩
abbrev cX3_wipe : ByteArray := prog_1_method_3_code
def yX3_wipe : MethodName := ⟨RX3, "wipe", "()I"⟩
abbrev cX3_fault : ByteArray := prog_1_method_4_code
def yX3_fault : MethodName := ⟨RX3, "fault", "()I"⟩
abbrev cX3_line : ByteArray := prog_1_method_5_code
def yX3_line : MethodName := ⟨RX3, "line", "()I"⟩
abbrev cX3_person : ByteArray := prog_1_method_6_code
def yX3_person : MethodName := ⟨RX3, "person", "(II)I"⟩
abbrev cX3_ticket : ByteArray := prog_1_method_7_code
def yX3_ticket : MethodName := ⟨RX3, "ticket", "(II)I"⟩
abbrev cX3_day : ByteArray := prog_1_method_8_code
def yX3_day : MethodName := ⟨RX3, "day", "()I"⟩
abbrev cX3_give : ByteArray := prog_1_method_9_code
def yX3_give : MethodName := ⟨RX3, "give", "(II)I"⟩
abbrev cX3_lose : ByteArray := prog_1_method_10_code
def yX3_lose : MethodName := ⟨RX3, "lose", "(I)I"⟩
abbrev cX3_change : ByteArray := prog_1_method_11_code
def yX3_change : MethodName := ⟨RX3, "change", "(II)I"⟩
abbrev cX3_undo : ByteArray := prog_1_method_12_code
def yX3_undo : MethodName := ⟨RX3, "undo", "()I"⟩
abbrev cX3_where : ByteArray := prog_1_method_13_code
def yX3_where : MethodName := ⟨RX3, "where", "(II)I"⟩
abbrev cX3_meet : ByteArray := prog_1_method_14_code
def yX3_meet : MethodName := ⟨RX3, "meet", "(II)I"⟩
abbrev cX3_twoSeats : ByteArray := prog_1_method_15_code
def yX3_twoSeats : MethodName := ⟨RX3, "twoSeats", "()I"⟩
abbrev cX3_fewest : ByteArray := prog_1_method_16_code
def yX3_fewest : MethodName := ⟨RX3, "fewest", "(IIZ)I"⟩
abbrev cX3_glad : ByteArray := prog_1_method_17_code
def yX3_glad : MethodName := ⟨RX3, "glad", "()I"⟩
abbrev cX3_falls : ByteArray := prog_1_method_18_code
def yX3_falls : MethodName := ⟨RX3, "falls", "(I)I"⟩
abbrev cX3_bestChange : ByteArray := prog_1_method_19_code
def yX3_bestChange : MethodName := ⟨RX3, "bestChange", "()I"⟩
abbrev cX3_share : ByteArray := prog_1_method_20_code
def yX3_share : MethodName := ⟨RX3, "share", "(IZ)I"⟩
abbrev cX3_blank : ByteArray := prog_1_method_21_code
def yX3_blank : MethodName := ⟨RX3, "blank", "(II)I"⟩
abbrev cX3_see : ByteArray := prog_1_method_22_code
def yX3_see : MethodName := ⟨RX3, "see", "(III)I"⟩
abbrev cX3_unsee : ByteArray := prog_1_method_23_code
def yX3_unsee : MethodName := ⟨RX3, "unsee", "()I"⟩
abbrev cX3_held : ByteArray := prog_1_method_24_code
def yX3_held : MethodName := ⟨RX3, "held", "(I)I"⟩
abbrev cX3_losses : ByteArray := prog_1_method_25_code
def yX3_losses : MethodName := ⟨RX3, "losses", "(IIIZ)I"⟩
abbrev cX3_seed : ByteArray := prog_1_method_26_code
def yX3_seed : MethodName := ⟨RX3, "seed", "(J)J"⟩
abbrev cX3_years : ByteArray := prog_1_method_27_code
def yX3_years : MethodName := ⟨RX3, "years", "(I)I"⟩
abbrev cX3_keep : ByteArray := prog_1_method_28_code
def yX3_keep : MethodName := ⟨RX3, "keep", "(I)I"⟩
abbrev cX3_again : ByteArray := prog_1_method_29_code
def yX3_again : MethodName := ⟨RX3, "again", "(I)I"⟩
abbrev cX3_count : ByteArray := prog_1_method_30_code
def yX3_count : MethodName := ⟨RX3, "count", "(I)I"⟩
abbrev cX3_isStop : ByteArray := prog_1_method_31_code
def yX3_isStop : MethodName := ⟨RX3, "isStop", "(I)Z"⟩
abbrev cX3_isSlot : ByteArray := prog_1_method_32_code
def yX3_isSlot : MethodName := ⟨RX3, "isSlot", "(I)Z"⟩
abbrev cX3_pairRefusal : ByteArray := prog_1_method_33_code
def yX3_pairRefusal : MethodName := ⟨RX3, "pairRefusal", "(II)I"⟩
abbrev cX3_rideOf : ByteArray := prog_1_method_34_code
def yX3_rideOf : MethodName := ⟨RX3, "rideOf", "(I)I"⟩
abbrev cX3_rememberAct : ByteArray := prog_1_method_35_code
def yX3_rememberAct : MethodName := ⟨RX3, "rememberAct", "()V"⟩
abbrev cX3_keepIn : ByteArray := prog_1_method_36_code
def yX3_keepIn : MethodName := ⟨RX3, "keepIn", "([LPunchedTicket$Moment;I)V"⟩
abbrev cX3_forgetActs : ByteArray := prog_1_method_37_code
def yX3_forgetActs : MethodName := ⟨RX3, "forgetActs", "()V"⟩
abbrev cX3_firstGift : ByteArray := prog_1_method_38_code
def yX3_firstGift : MethodName := ⟨RX3, "firstGift", "(IIII)I"⟩
abbrev cX3_firstTwoGifts : ByteArray := prog_1_method_39_code
def yX3_firstTwoGifts : MethodName := ⟨RX3, "firstTwoGifts", "(II)I"⟩
abbrev cX3_gladIfChanged : ByteArray := prog_1_method_40_code
def yX3_gladIfChanged : MethodName := ⟨RX3, "gladIfChanged", "(II)I"⟩
abbrev cX3_gladWithOnly : ByteArray := prog_1_method_41_code
def yX3_gladWithOnly : MethodName := ⟨RX3, "gladWithOnly", "(I)I"⟩
abbrev cX3_endsAtAfterLosing : ByteArray := prog_1_method_42_code
def yX3_endsAtAfterLosing : MethodName := ⟨RX3, "endsAtAfterLosing", "(III)Z"⟩
abbrev cX3_seatOfUnusedBlank : ByteArray := prog_1_method_43_code
def yX3_seatOfUnusedBlank : MethodName := ⟨RX3, "seatOfUnusedBlank", "(II)I"⟩
abbrev cX3_firstUnusedBlank : ByteArray := prog_1_method_44_code
def yX3_firstUnusedBlank : MethodName := ⟨RX3, "firstUnusedBlank", "(II)I"⟩
abbrev cX3_firstUsedBlank : ByteArray := prog_1_method_45_code
def yX3_firstUsedBlank : MethodName := ⟨RX3, "firstUsedBlank", "(III)I"⟩
abbrev cX3_seatOfUsedBlank : ByteArray := prog_1_method_46_code
def yX3_seatOfUsedBlank : MethodName := ⟨RX3, "seatOfUsedBlank", "(IIII)I"⟩
abbrev cX3_firstFreeSeat : ByteArray := prog_1_method_47_code
def yX3_firstFreeSeat : MethodName := ⟨RX3, "firstFreeSeat", "(I)I"⟩
abbrev cX3_trialMakesSeenSo : ByteArray := prog_1_method_48_code
def yX3_trialMakesSeenSo : MethodName := ⟨RX3, "trialMakesSeenSo", "()Z"⟩
abbrev cX3_seenIsSoOn : ByteArray := prog_1_method_49_code
def yX3_seenIsSoOn : MethodName := ⟨RX3, "seenIsSoOn", "(I)Z"⟩
abbrev cX3_factorial : ByteArray := prog_1_method_50_code
def yX3_factorial : MethodName := ⟨RX3, "factorial", "(I)I"⟩
abbrev cX3_power : ByteArray := prog_1_method_51_code
def yX3_power : MethodName := ⟨RX3, "power", "(II)I"⟩
abbrev cX3_fraction : ByteArray := prog_1_method_52_code
def yX3_fraction : MethodName := ⟨RX3, "fraction", "(IIZ)I"⟩
abbrev cX3_commonDivisor : ByteArray := prog_1_method_53_code
def yX3_commonDivisor : MethodName := ⟨RX3, "commonDivisor", "(II)I"⟩
def RX4 : String := "PunchedTicketModel"
def TX4 : u_T := fun k => match k with
  | 0 => ("PunchedTicketModel", "people", "I", false)
  | 1 => ("PunchedTicketModel", "tickets", "I", false)
  | 2 => ("PunchedTicketModel", "wish", "[I", true)
  | 3 => ("PunchedTicketModel", "kind", "[I", true)
  | 4 => ("PunchedTicketModel", "seat", "[I", true)
  | 5 => ("PunchedTicketModel", "now", "[I", true)
  | 6 => ("PunchedTicketModel", "readHome", "[I", true)
  | 7 => ("PunchedTicketModel", "readWish", "[I", true)
  | 8 => ("PunchedTicketModel", "readKind", "[I", true)
  | 9 => ("PunchedTicketModel", "readTicket", "[I", true)
  | 10 => ("PunchedTicketModel", "readPeople", "I", false)
  | 11 => ("PunchedTicketModel", "readTickets", "I", false)
  | 12 => ("PunchedTicketModel", "text", "[I", true)
  | 13 => ("PunchedTicketModel", "length", "I", false)
  | 14 => ("PunchedTicketModel", "at", "I", false)
  | 15 => ("PunchedTicketModel", "faultAt", "I", false)
  | 16 => ("PunchedTicketModel", "by", "[I", true)
  | 17 => ("PunchedTicketModel", "low", "[I", true)
  | 18 => ("PunchedTicketModel", "high", "[I", true)
  | 19 => ("PunchedTicketModel", "acts", "I", false)
  | 20 => ("PunchedTicketModel", "next", "I", false)
  | 21 => ("PunchedTicketModel", "row", "[I", true)
  | 22 => ("PunchedTicketModel", "glads", "[I", true)
  | 23 => ("PunchedTicketModel", "seen", "I", false)
  | 24 => ("PunchedTicketModel", "seenOf", "[I", true)
  | 25 => ("PunchedTicketModel", "seenOn", "[I", true)
  | 26 => ("PunchedTicketModel", "seenWhen", "[I", true)
  | 27 => ("PunchedTicketModel", "seed", "J", false)
  | 28 => ("PunchedTicketModel", "isKept", "[Z", true)
  | _ => ("PunchedTicketModel", "kept", "[I", true)
def tyX4 : Nat → FieldType := fun k => match k with
  | 0 => .int
  | 1 => .int
  | 2 => .array .int
  | 3 => .array .int
  | 4 => .array .int
  | 5 => .array .int
  | 6 => .array .int
  | 7 => .array .int
  | 8 => .array .int
  | 9 => .array .int
  | 10 => .int
  | 11 => .int
  | 12 => .array .int
  | 13 => .int
  | 14 => .int
  | 15 => .int
  | 16 => .array .int
  | 17 => .array .int
  | 18 => .array .int
  | 19 => .int
  | 20 => .int
  | 21 => .array .int
  | 22 => .array .int
  | 23 => .int
  | 24 => .array .int
  | 25 => .array .int
  | 26 => .array .int
  | 27 => .long
  | 28 => .array .boolean
  | _ => .array .int
abbrev wsX40 : List Cond := u_ws RX4 TX4 30
theorem nmX4 : ∀ a, a < 30 → ∀ b, b < 30 → a ≠ b → (TX4 a).2.1 ≠ (TX4 b).2.1 := by decide +kernel
theorem tyX4_ok : ∀ k, k < 30 → parseFieldDescriptor (TX4 k).2.2.1 = some (tyX4 k) := by decide +kernel
abbrev cX4_init : ByteArray := prog_6_method_1_code
def yX4_init : MethodName := ⟨RX4, "<init>", "()V"⟩
abbrev cX4_in : ByteArray := prog_6_method_3_code
def yX4_in : MethodName := ⟨RX4, "in", "(JJJ)Z"⟩
abbrev cX4_has : ByteArray := prog_6_method_4_code
def yX4_has : MethodName := ⟨RX4, "has", "(II)Z"⟩
abbrev cX4_ones : ByteArray := prog_6_method_5_code
def yX4_ones : MethodName := ⟨RX4, "ones", "(I)I"⟩
abbrev cX4_write : ByteArray := prog_6_method_6_code
def yX4_write : MethodName := ⟨RX4, "write", "(I)I"⟩
abbrev cX4_wipe : ByteArray := prog_6_method_7_code
def yX4_wipe : MethodName := ⟨RX4, "wipe", "()I"⟩
abbrev cX4_figure : ByteArray := prog_6_method_8_code
def yX4_figure : MethodName := ⟨RX4, "figure", "(II)I"⟩
abbrev cX4_readText : ByteArray := prog_6_method_9_code
def yX4_readText : MethodName := ⟨RX4, "readText", "()I"⟩
abbrev cX4_fault : ByteArray := prog_6_method_10_code
def yX4_fault : MethodName := ⟨RX4, "fault", "()I"⟩
abbrev cX4_line : ByteArray := prog_6_method_11_code
def yX4_line : MethodName := ⟨RX4, "line", "()I"⟩
abbrev cX4_isPerson : ByteArray := prog_6_method_12_code
def yX4_isPerson : MethodName := ⟨RX4, "isPerson", "(I)Z"⟩
abbrev cX4_isTicket : ByteArray := prog_6_method_13_code
def yX4_isTicket : MethodName := ⟨RX4, "isTicket", "(I)Z"⟩
abbrev cX4_isGone : ByteArray := prog_6_method_14_code
def yX4_isGone : MethodName := ⟨RX4, "isGone", "(I)Z"⟩
abbrev cX4_holder : ByteArray := prog_6_method_15_code
def yX4_holder : MethodName := ⟨RX4, "holder", "(I)I"⟩
abbrev cX4_goneNow : ByteArray := prog_6_method_16_code
def yX4_goneNow : MethodName := ⟨RX4, "goneNow", "()I"⟩
abbrev cX4_goesBy : ByteArray := prog_6_method_17_code
def yX4_goesBy : MethodName := ⟨RX4, "goesBy", "(III)I"⟩
abbrev cX4_person : ByteArray := prog_6_method_18_code
def yX4_person : MethodName := ⟨RX4, "person", "(II)I"⟩
abbrev cX4_ticket : ByteArray := prog_6_method_19_code
def yX4_ticket : MethodName := ⟨RX4, "ticket", "(II)I"⟩
abbrev cX4_use : ByteArray := prog_6_method_20_code
def yX4_use : MethodName := ⟨RX4, "use", "(III)V"⟩
abbrev cX4_pass : ByteArray := prog_6_method_21_code
def yX4_pass : MethodName := ⟨RX4, "pass", "(II)I"⟩
abbrev cX4_areTogether : ByteArray := prog_6_method_22_code
def yX4_areTogether : MethodName := ⟨RX4, "areTogether", "(III)Z"⟩
abbrev cX4_isDouble : ByteArray := prog_6_method_23_code
def yX4_isDouble : MethodName := ⟨RX4, "isDouble", "(I)Z"⟩
abbrev cX4_keepAct : ByteArray := prog_6_method_24_code
def yX4_keepAct : MethodName := ⟨RX4, "keepAct", "()V"⟩
abbrev cX4_day : ByteArray := prog_6_method_25_code
def yX4_day : MethodName := ⟨RX4, "day", "()I"⟩
abbrev cX4_give : ByteArray := prog_6_method_26_code
def yX4_give : MethodName := ⟨RX4, "give", "(II)I"⟩
abbrev cX4_lose : ByteArray := prog_6_method_27_code
def yX4_lose : MethodName := ⟨RX4, "lose", "(I)I"⟩
abbrev cX4_canChange : ByteArray := prog_6_method_28_code
def yX4_canChange : MethodName := ⟨RX4, "canChange", "(II)Z"⟩
abbrev cX4_changeOn : ByteArray := prog_6_method_29_code
def yX4_changeOn : MethodName := ⟨RX4, "changeOn", "(III)V"⟩
abbrev cX4_change : ByteArray := prog_6_method_30_code
def yX4_change : MethodName := ⟨RX4, "change", "(II)I"⟩
abbrev cX4_undo : ByteArray := prog_6_method_31_code
def yX4_undo : MethodName := ⟨RX4, "undo", "()I"⟩
abbrev cX4_layTrial : ByteArray := prog_6_method_32_code
def yX4_layTrial : MethodName := ⟨RX4, "layTrial", "()V"⟩
abbrev cX4_loseTrial : ByteArray := prog_6_method_33_code
def yX4_loseTrial : MethodName := ⟨RX4, "loseTrial", "(I)V"⟩
abbrev cX4_passAll : ByteArray := prog_6_method_34_code
def yX4_passAll : MethodName := ⟨RX4, "passAll", "(I)I"⟩
abbrev cX4_where : ByteArray := prog_6_method_35_code
def yX4_where : MethodName := ⟨RX4, "where", "(II)I"⟩
abbrev cX4_meetOf : ByteArray := prog_6_method_36_code
def yX4_meetOf : MethodName := ⟨RX4, "meetOf", "(II)I"⟩
abbrev cX4_meet : ByteArray := prog_6_method_37_code
def yX4_meet : MethodName := ⟨RX4, "meet", "(II)I"⟩
abbrev cX4_twoSeats : ByteArray := prog_6_method_38_code
def yX4_twoSeats : MethodName := ⟨RX4, "twoSeats", "()I"⟩
abbrev cX4_giveTrial : ByteArray := prog_6_method_39_code
def yX4_giveTrial : MethodName := ⟨RX4, "giveTrial", "(II)Z"⟩
abbrev cX4_fewest : ByteArray := prog_6_method_40_code
def yX4_fewest : MethodName := ⟨RX4, "fewest", "(IIZ)I"⟩
abbrev cX4_gladOf : ByteArray := prog_6_method_41_code
def yX4_gladOf : MethodName := ⟨RX4, "gladOf", "()I"⟩
abbrev cX4_gladWithout : ByteArray := prog_6_method_42_code
def yX4_gladWithout : MethodName := ⟨RX4, "gladWithout", "(I)I"⟩
abbrev cX4_glad : ByteArray := prog_6_method_43_code
def yX4_glad : MethodName := ⟨RX4, "glad", "()I"⟩
abbrev cX4_falls : ByteArray := prog_6_method_44_code
def yX4_falls : MethodName := ⟨RX4, "falls", "(I)I"⟩
abbrev cX4_bestChange : ByteArray := prog_6_method_45_code
def yX4_bestChange : MethodName := ⟨RX4, "bestChange", "()I"⟩
abbrev cX4_factorial : ByteArray := prog_6_method_46_code
def yX4_factorial : MethodName := ⟨RX4, "factorial", "(I)I"⟩
abbrev cX4_common : ByteArray := prog_6_method_47_code
def yX4_common : MethodName := ⟨RX4, "common", "(II)I"⟩
abbrev cX4_share : ByteArray := prog_6_method_48_code
def yX4_share : MethodName := ⟨RX4, "share", "(IZ)I"⟩
abbrev cX4_isBlank : ByteArray := prog_6_method_49_code
def yX4_isBlank : MethodName := ⟨RX4, "isBlank", "(III)Z"⟩
abbrev cX4_blank : ByteArray := prog_6_method_50_code
def yX4_blank : MethodName := ⟨RX4, "blank", "(II)I"⟩
abbrev cX4_see : ByteArray := prog_6_method_51_code
def yX4_see : MethodName := ⟨RX4, "see", "(III)I"⟩
abbrev cX4_unsee : ByteArray := prog_6_method_52_code
def yX4_unsee : MethodName := ⟨RX4, "unsee", "()I"⟩
abbrev cX4_isSeen : ByteArray := prog_6_method_53_code
def yX4_isSeen : MethodName := ⟨RX4, "isSeen", "()Z"⟩
abbrev cX4_held : ByteArray := prog_6_method_54_code
def yX4_held : MethodName := ⟨RX4, "held", "(I)I"⟩
abbrev cX4_losses : ByteArray := prog_6_method_55_code
def yX4_losses : MethodName := ⟨RX4, "losses", "(IIIZ)I"⟩
abbrev cX4_seed : ByteArray := prog_6_method_56_code
def yX4_seed : MethodName := ⟨RX4, "seed", "(J)J"⟩
abbrev cX4_years : ByteArray := prog_6_method_57_code
def yX4_years : MethodName := ⟨RX4, "years", "(I)I"⟩
abbrev cX4_keep : ByteArray := prog_6_method_58_code
def yX4_keep : MethodName := ⟨RX4, "keep", "(I)I"⟩
abbrev cX4_again : ByteArray := prog_6_method_59_code
def yX4_again : MethodName := ⟨RX4, "again", "(I)I"⟩
abbrev cX4_count : ByteArray := prog_6_method_60_code
def yX4_count : MethodName := ⟨RX4, "count", "(I)I"⟩
def RJ6 : String := "java/lang/Integer"
def TJ6 : u_T := fun k => match k with
  | _ => ("", "", "", false)
def tyJ6 : Nat → FieldType := fun k => match k with
  | _ => .int
abbrev wsJ60 : List Cond := u_ws RJ6 TJ6 0
theorem nmJ6 : ∀ a, a < 0 → ∀ b, b < 0 → a ≠ b → (TJ6 a).2.1 ≠ (TJ6 b).2.1 := by decide +kernel
theorem tyJ6_ok : ∀ k, k < 0 → parseFieldDescriptor (TJ6 k).2.2.1 = some (tyJ6 k) := by decide +kernel
abbrev cJ6_bitCount_0f7a4 : ByteArray := prog_7_method_49_code
def yJ6_bitCount_0f7a4 : MethodName := ⟨RJ6, "bitCount", "(I)I"⟩
def RJ9 : String := "java/lang/Math"
def TJ9 : u_T := fun k => match k with
  | _ => ("", "", "", false)
def tyJ9 : Nat → FieldType := fun k => match k with
  | _ => .int
abbrev wsJ90 : List Cond := u_ws RJ9 TJ9 0
theorem nmJ9 : ∀ a, a < 0 → ∀ b, b < 0 → a ≠ b → (TJ9 a).2.1 ≠ (TJ9 b).2.1 := by decide +kernel
theorem tyJ9_ok : ∀ k, k < 0 → parseFieldDescriptor (TJ9 k).2.2.1 = some (tyJ9 k) := by decide +kernel
abbrev cJ9_abs_0f7a4 : ByteArray := prog_8_method_59_code
def yJ9_abs_0f7a4 : MethodName := ⟨RJ9, "abs", "(I)I"⟩
abbrev cJ9_max_7cf53 : ByteArray := prog_8_method_65_code
def yJ9_max_7cf53 : MethodName := ⟨RJ9, "max", "(II)I"⟩
abbrev cJ9_min_7cf53 : ByteArray := prog_8_method_69_code
def yJ9_min_7cf53 : MethodName := ⟨RJ9, "min", "(II)I"⟩
def RJ10 : String := "java/lang/System"
def TJ10 : u_T := fun k => match k with
  | _ => ("", "", "", false)
def tyJ10 : Nat → FieldType := fun k => match k with
  | _ => .int
abbrev wsJ100 : List Cond := u_ws RJ10 TJ10 0
theorem nmJ10 : ∀ a, a < 0 → ∀ b, b < 0 → a ≠ b → (TJ10 a).2.1 ≠ (TJ10 b).2.1 := by decide +kernel
theorem tyJ10_ok : ∀ k, k < 0 → parseFieldDescriptor (TJ10 k).2.2.1 = some (tyJ10 k) := by decide +kernel
def RL : String := "PunchedTicketLaw"
abbrev cL_law : ByteArray := code
def yL_law : MethodName := ⟨RL, "law", "([I)Z"⟩
def wsX0_init : List Cond := .code yX0_init cX0_init 1 none :: ([.methodLink RX0 3 objectInit, .instanceMethod objectInit, .code objectInit ⟨#[0xb1]⟩ 1 none, .fieldLink RX0 9 "PunchedTicket$Line" "people" "I", .fieldLink RX0 15 "PunchedTicket$Line" "tickets" "I", .arrayClass .int, .fieldLink RX0 18 "PunchedTicket$Line" "home" "[I", .fieldLink RX0 22 "PunchedTicket$Line" "liked" "[I", .fieldLink RX0 25 "PunchedTicket$Line" "kind" "[I", .fieldLink RX0 28 "PunchedTicket$Line" "forDay" "[I", .fieldLink RX0 31 "PunchedTicket$Line" "from" "[I", .fieldLink RX0 34 "PunchedTicket$Line" "to" "[I", .fieldLink RX0 37 "PunchedTicket$Line" "seat" "[I", .fieldLink RX0 40 "PunchedTicket$Line" "holder" "[I"] ++ wsX00)
def wsX0_hasPerson : List Cond := .code yX0_hasPerson cX0_hasPerson 2 (some .boolean) :: ([.fieldLink RX0 9 "PunchedTicket$Line" "people" "I"] ++ wsX00)
def wsX0_copy : List Cond := .code yX0_copy cX0_copy 2 none :: ([.fieldLink RX0 9 "PunchedTicket$Line" "people" "I", .fieldLink RX0 15 "PunchedTicket$Line" "tickets" "I", .fieldLink RX0 18 "PunchedTicket$Line" "home" "[I", .methodLink RX0 43 arraycopyName, .native arraycopyName, .static arraycopyName, .initialized "java/lang/System", .fieldLink RX0 22 "PunchedTicket$Line" "liked" "[I", .fieldLink RX0 25 "PunchedTicket$Line" "kind" "[I", .fieldLink RX0 28 "PunchedTicket$Line" "forDay" "[I", .fieldLink RX0 31 "PunchedTicket$Line" "from" "[I", .fieldLink RX0 34 "PunchedTicket$Line" "to" "[I", .fieldLink RX0 37 "PunchedTicket$Line" "seat" "[I", .fieldLink RX0 40 "PunchedTicket$Line" "holder" "[I"] ++ wsX00)
def wsX0_partSize : List Cond := .code yX0_partSize cX0_partSize 2 (some .int) :: ([.fieldLink RX0 9 "PunchedTicket$Line" "people" "I", .fieldLink RX0 15 "PunchedTicket$Line" "tickets" "I"] ++ wsX00)
def wsX0_figureFits : List Cond := .code yX0_figureFits cX0_figureFits 6 (some .boolean) :: ([.fieldLink RX0 9 "PunchedTicket$Line" "people" "I"] ++ wsX00)
def wsX0_partFault : List Cond := .code yX0_partFault cX0_partFault 7 (some .int) :: ([.methodLink RX0 61 yX0_figureFits, .instanceMethod yX0_figureFits, .selects RX0 yX0_figureFits yX0_figureFits, .initialized RX0, .code yX0_figureFits cX0_figureFits 6 (some .boolean), .fieldLink RX0 9 "PunchedTicket$Line" "people" "I"] ++ wsX00)
def wsX0_takePart : List Cond := .code yX0_takePart cX0_takePart 4 none :: ([.fieldLink RX0 18 "PunchedTicket$Line" "home" "[I", .fieldLink RX0 9 "PunchedTicket$Line" "people" "I", .fieldLink RX0 22 "PunchedTicket$Line" "liked" "[I", .fieldLink RX0 25 "PunchedTicket$Line" "kind" "[I", .fieldLink RX0 28 "PunchedTicket$Line" "forDay" "[I", .fieldLink RX0 15 "PunchedTicket$Line" "tickets" "I", .fieldLink RX0 31 "PunchedTicket$Line" "from" "[I", .fieldLink RX0 34 "PunchedTicket$Line" "to" "[I", .fieldLink RX0 37 "PunchedTicket$Line" "seat" "[I", .fieldLink RX0 40 "PunchedTicket$Line" "holder" "[I"] ++ wsX00)
def wsX0_read_r1 : List Cond := [Cond.fieldLink RX0 9 "PunchedTicket$Line" "people" "I", Cond.fieldLink RX0 15 "PunchedTicket$Line" "tickets" "I", Cond.methodLink RX0 49 yX0_partSize, Cond.instanceMethod yX0_partSize, Cond.selects RX0 yX0_partSize yX0_partSize, Cond.initialized RX0, Cond.code yX0_partSize cX0_partSize 2 (some .int), Cond.methodLink RX0 53 yX0_partFault, Cond.instanceMethod yX0_partFault, Cond.selects RX0 yX0_partFault yX0_partFault, Cond.code yX0_partFault cX0_partFault 7 (some .int), Cond.methodLink RX0 61 yX0_figureFits, Cond.instanceMethod yX0_figureFits, Cond.selects RX0 yX0_figureFits yX0_figureFits, Cond.code yX0_figureFits cX0_figureFits 6 (some .boolean), Cond.methodLink RX0 57 yX0_takePart, Cond.instanceMethod yX0_takePart, Cond.selects RX0 yX0_takePart yX0_takePart, Cond.code yX0_takePart cX0_takePart 4 none, Cond.fieldLink RX0 18 "PunchedTicket$Line" "home" "[I", Cond.fieldLink RX0 22 "PunchedTicket$Line" "liked" "[I", Cond.fieldLink RX0 25 "PunchedTicket$Line" "kind" "[I", Cond.fieldLink RX0 28 "PunchedTicket$Line" "forDay" "[I", Cond.fieldLink RX0 31 "PunchedTicket$Line" "from" "[I"]
def wsX0_read_r2 : List Cond := [Cond.fieldLink RX0 34 "PunchedTicket$Line" "to" "[I", Cond.fieldLink RX0 37 "PunchedTicket$Line" "seat" "[I", Cond.fieldLink RX0 40 "PunchedTicket$Line" "holder" "[I"]
def wsX0_read : List Cond := .code yX0_read cX0_read 6 (some .int) :: ((wsX0_read_r1 ++ wsX0_read_r2) ++ wsX00)
def wsX1_init : List Cond := .code yX1_init cX1_init 2 none :: ([.methodLink RX1 3 objectInit, .instanceMethod objectInit, .code objectInit ⟨#[0xb1]⟩ 1 none, .fieldLink RX1 9 "PunchedTicket$Moment" "day" "I", .fieldLink RX1 15 "PunchedTicket$Moment" "tickets" "I", .fieldLink RX1 18 "PunchedTicket$Moment" "returns" "I", .fieldLink RX1 21 "PunchedTicket$Moment" "gone" "I", .arrayClass .int, .fieldLink RX1 24 "PunchedTicket$Moment" "at" "[I", .fieldLink RX1 28 "PunchedTicket$Moment" "forDay" "[I", .fieldLink RX1 31 "PunchedTicket$Moment" "holder" "[I", .fieldLink RX1 34 "PunchedTicket$Moment" "line" "LPunchedTicket$Line;"] ++ wsX10)
def wsX1_begin : List Cond := .code yX1_begin cX1_begin 1 none :: ([.fieldLink RX1 9 "PunchedTicket$Moment" "day" "I", .fieldLink RX1 34 "PunchedTicket$Moment" "line" "LPunchedTicket$Line;", .fieldLink RX1 38 "PunchedTicket$Line" "tickets" "I", .fieldLink RX1 15 "PunchedTicket$Moment" "tickets" "I", .fieldLink RX1 18 "PunchedTicket$Moment" "returns" "I", .fieldLink RX1 21 "PunchedTicket$Moment" "gone" "I", .fieldLink RX1 41 "PunchedTicket$Line" "home" "[I", .fieldLink RX1 24 "PunchedTicket$Moment" "at" "[I", .methodLink RX1 44 arraycopyName, .native arraycopyName, .static arraycopyName, .initialized "java/lang/System", .fieldLink RX1 50 "PunchedTicket$Line" "forDay" "[I", .fieldLink RX1 28 "PunchedTicket$Moment" "forDay" "[I", .fieldLink RX1 51 "PunchedTicket$Line" "holder" "[I", .fieldLink RX1 31 "PunchedTicket$Moment" "holder" "[I"] ++ wsX10 ++ wsX00)
def wsX1_copy : List Cond := .code yX1_copy cX1_copy 2 none :: ([.fieldLink RX1 9 "PunchedTicket$Moment" "day" "I", .fieldLink RX1 15 "PunchedTicket$Moment" "tickets" "I", .fieldLink RX1 18 "PunchedTicket$Moment" "returns" "I", .fieldLink RX1 21 "PunchedTicket$Moment" "gone" "I", .fieldLink RX1 24 "PunchedTicket$Moment" "at" "[I", .methodLink RX1 44 arraycopyName, .native arraycopyName, .static arraycopyName, .initialized "java/lang/System", .fieldLink RX1 28 "PunchedTicket$Moment" "forDay" "[I", .fieldLink RX1 31 "PunchedTicket$Moment" "holder" "[I"] ++ wsX10)
def wsX1_hasTicket : List Cond := .code yX1_hasTicket cX1_hasTicket 2 (some .boolean) :: ([.fieldLink RX1 15 "PunchedTicket$Moment" "tickets" "I"] ++ wsX10)
def wsX1_isGone : List Cond := .code yX1_isGone cX1_isGone 2 (some .boolean) :: ([.fieldLink RX1 21 "PunchedTicket$Moment" "gone" "I"] ++ wsX10)
def wsX1_isReturn : List Cond := .code yX1_isReturn cX1_isReturn 2 (some .boolean) :: ([.fieldLink RX1 18 "PunchedTicket$Moment" "returns" "I"] ++ wsX10)
def wsX1_notGone : List Cond := .code yX1_notGone cX1_notGone 1 (some .int) :: ([.fieldLink RX1 21 "PunchedTicket$Moment" "gone" "I", .fieldLink RX1 15 "PunchedTicket$Moment" "tickets" "I"] ++ wsX10)
def wsX1_from : List Cond := .code yX1_from cX1_from 2 (some .int) :: ([.fieldLink RX1 34 "PunchedTicket$Moment" "line" "LPunchedTicket$Line;", .fieldLink RX1 56 "PunchedTicket$Line" "to" "[I", .fieldLink RX1 59 "PunchedTicket$Line" "from" "[I", .methodLink RX1 52 yX1_isReturn, .instanceMethod yX1_isReturn, .selects RX1 yX1_isReturn yX1_isReturn, .initialized RX1, .code yX1_isReturn cX1_isReturn 2 (some .boolean), .fieldLink RX1 18 "PunchedTicket$Moment" "returns" "I"] ++ wsX10 ++ wsX00)
def wsX1_to : List Cond := .code yX1_to cX1_to 2 (some .int) :: ([.fieldLink RX1 34 "PunchedTicket$Moment" "line" "LPunchedTicket$Line;", .fieldLink RX1 59 "PunchedTicket$Line" "from" "[I", .fieldLink RX1 56 "PunchedTicket$Line" "to" "[I", .methodLink RX1 52 yX1_isReturn, .instanceMethod yX1_isReturn, .selects RX1 yX1_isReturn yX1_isReturn, .initialized RX1, .code yX1_isReturn cX1_isReturn 2 (some .boolean), .fieldLink RX1 18 "PunchedTicket$Moment" "returns" "I"] ++ wsX10 ++ wsX00)
def wsX1_canBeGiven : List Cond := .code yX1_canBeGiven cX1_canBeGiven 3 (some .boolean) :: ([.fieldLink RX1 31 "PunchedTicket$Moment" "holder" "[I", .methodLink RX1 62 yX1_isGone, .instanceMethod yX1_isGone, .selects RX1 yX1_isGone yX1_isGone, .initialized RX1, .code yX1_isGone cX1_isGone 2 (some .boolean), .fieldLink RX1 21 "PunchedTicket$Moment" "gone" "I"] ++ wsX10)
def wsX1_canBeChanged : List Cond := .code yX1_canBeChanged cX1_canBeChanged 3 (some .boolean) :: ([.fieldLink RX1 31 "PunchedTicket$Moment" "holder" "[I", .methodLink RX1 62 yX1_isGone, .instanceMethod yX1_isGone, .selects RX1 yX1_isGone yX1_isGone, .initialized RX1, .code yX1_isGone cX1_isGone 2 (some .boolean), .fieldLink RX1 21 "PunchedTicket$Moment" "gone" "I"] ++ wsX10)
def wsX1_swapHolders : List Cond := .code yX1_swapHolders cX1_swapHolders 4 none :: ([.fieldLink RX1 31 "PunchedTicket$Moment" "holder" "[I"] ++ wsX10)
def wsX1_heldBy : List Cond := .code yX1_heldBy cX1_heldBy 4 (some .int) :: ([.fieldLink RX1 15 "PunchedTicket$Moment" "tickets" "I", .fieldLink RX1 31 "PunchedTicket$Moment" "holder" "[I", .methodLink RX1 62 yX1_isGone, .instanceMethod yX1_isGone, .selects RX1 yX1_isGone yX1_isGone, .initialized RX1, .code yX1_isGone cX1_isGone 2 (some .boolean), .fieldLink RX1 21 "PunchedTicket$Moment" "gone" "I"] ++ wsX10)
def wsX1_gladNow : List Cond := .code yX1_gladNow cX1_gladNow 3 (some .int) :: ([.fieldLink RX1 34 "PunchedTicket$Moment" "line" "LPunchedTicket$Line;", .fieldLink RX1 65 "PunchedTicket$Line" "people" "I", .fieldLink RX1 24 "PunchedTicket$Moment" "at" "[I", .fieldLink RX1 68 "PunchedTicket$Line" "liked" "[I"] ++ wsX10 ++ wsX00)
def wsX1_canTake : List Cond := .code yX1_canTake cX1_canTake 5 (some .boolean) :: ([.fieldLink RX1 18 "PunchedTicket$Moment" "returns" "I", .fieldLink RX1 34 "PunchedTicket$Moment" "line" "LPunchedTicket$Line;", .fieldLink RX1 56 "PunchedTicket$Line" "to" "[I", .fieldLink RX1 59 "PunchedTicket$Line" "from" "[I", .fieldLink RX1 21 "PunchedTicket$Moment" "gone" "I", .fieldLink RX1 78 "PunchedTicket$Line" "kind" "[I", .fieldLink RX1 24 "PunchedTicket$Moment" "at" "[I"] ++ wsX10 ++ wsX00)
def wsX1_findRides : List Cond := .code yX1_findRides cX1_findRides 4 none :: ([.fieldLink RX1 15 "PunchedTicket$Moment" "tickets" "I", .fieldLink RX1 31 "PunchedTicket$Moment" "holder" "[I", .fieldLink RX1 28 "PunchedTicket$Moment" "forDay" "[I", .fieldLink RX1 9 "PunchedTicket$Moment" "day" "I", .fieldLink RX1 34 "PunchedTicket$Moment" "line" "LPunchedTicket$Line;", .methodLink RX1 71 yX0_hasPerson, .instanceMethod yX0_hasPerson, .selects RX0 yX0_hasPerson yX0_hasPerson, .initialized RX0, .code yX0_hasPerson cX0_hasPerson 2 (some .boolean), .fieldLink RX0 9 "PunchedTicket$Line" "people" "I", .methodLink RX1 74 yX1_canTake, .instanceMethod yX1_canTake, .selects RX1 yX1_canTake yX1_canTake, .initialized RX1, .code yX1_canTake cX1_canTake 5 (some .boolean), .fieldLink RX1 18 "PunchedTicket$Moment" "returns" "I", .fieldLink RX1 56 "PunchedTicket$Line" "to" "[I", .fieldLink RX1 59 "PunchedTicket$Line" "from" "[I", .fieldLink RX1 21 "PunchedTicket$Moment" "gone" "I", .fieldLink RX1 78 "PunchedTicket$Line" "kind" "[I", .fieldLink RX1 24 "PunchedTicket$Moment" "at" "[I"] ++ wsX10 ++ wsX00)
def wsX1_useTicket : List Cond := .code yX1_useTicket cX1_useTicket 4 none :: ([.fieldLink RX1 34 "PunchedTicket$Moment" "line" "LPunchedTicket$Line;", .fieldLink RX1 78 "PunchedTicket$Line" "kind" "[I", .fieldLink RX1 9 "PunchedTicket$Moment" "day" "I", .fieldLink RX1 18 "PunchedTicket$Moment" "returns" "I", .fieldLink RX1 28 "PunchedTicket$Moment" "forDay" "[I", .fieldLink RX1 31 "PunchedTicket$Moment" "holder" "[I", .fieldLink RX1 65 "PunchedTicket$Line" "people" "I", .fieldLink RX1 21 "PunchedTicket$Moment" "gone" "I", .methodLink RX1 52 yX1_isReturn, .instanceMethod yX1_isReturn, .selects RX1 yX1_isReturn yX1_isReturn, .initialized RX1, .code yX1_isReturn cX1_isReturn 2 (some .boolean)] ++ wsX10 ++ wsX00)
def wsX1_passDay_r1 : List Cond := [Cond.fieldLink RX1 34 "PunchedTicket$Moment" "line" "LPunchedTicket$Line;", Cond.fieldLink RX1 65 "PunchedTicket$Line" "people" "I", Cond.fieldLink RX1 24 "PunchedTicket$Moment" "at" "[I", Cond.fieldLink RX1 9 "PunchedTicket$Moment" "day" "I", Cond.methodLink RX1 81 yX1_findRides, Cond.instanceMethod yX1_findRides, Cond.selects RX1 yX1_findRides yX1_findRides, Cond.initialized RX1, Cond.code yX1_findRides cX1_findRides 4 none, Cond.fieldLink RX1 15 "PunchedTicket$Moment" "tickets" "I", Cond.fieldLink RX1 31 "PunchedTicket$Moment" "holder" "[I", Cond.fieldLink RX1 28 "PunchedTicket$Moment" "forDay" "[I", Cond.methodLink RX1 71 yX0_hasPerson, Cond.instanceMethod yX0_hasPerson, Cond.selects RX0 yX0_hasPerson yX0_hasPerson, Cond.initialized RX0, Cond.code yX0_hasPerson cX0_hasPerson 2 (some .boolean), Cond.fieldLink RX0 9 "PunchedTicket$Line" "people" "I", Cond.methodLink RX1 74 yX1_canTake, Cond.instanceMethod yX1_canTake, Cond.selects RX1 yX1_canTake yX1_canTake, Cond.code yX1_canTake cX1_canTake 5 (some .boolean), Cond.fieldLink RX1 18 "PunchedTicket$Moment" "returns" "I", Cond.fieldLink RX1 56 "PunchedTicket$Line" "to" "[I"]
def wsX1_passDay_r2 : List Cond := [Cond.fieldLink RX1 59 "PunchedTicket$Line" "from" "[I", Cond.fieldLink RX1 21 "PunchedTicket$Moment" "gone" "I", Cond.fieldLink RX1 78 "PunchedTicket$Line" "kind" "[I", Cond.methodLink RX1 85 yX1_hasTicket, Cond.instanceMethod yX1_hasTicket, Cond.selects RX1 yX1_hasTicket yX1_hasTicket, Cond.code yX1_hasTicket cX1_hasTicket 2 (some .boolean), Cond.methodLink RX1 88 yX1_to, Cond.instanceMethod yX1_to, Cond.selects RX1 yX1_to yX1_to, Cond.code yX1_to cX1_to 2 (some .int), Cond.methodLink RX1 52 yX1_isReturn, Cond.instanceMethod yX1_isReturn, Cond.selects RX1 yX1_isReturn yX1_isReturn, Cond.code yX1_isReturn cX1_isReturn 2 (some .boolean), Cond.methodLink RX1 91 yX1_useTicket, Cond.instanceMethod yX1_useTicket, Cond.selects RX1 yX1_useTicket yX1_useTicket, Cond.code yX1_useTicket cX1_useTicket 4 none]
def wsX1_passDay : List Cond := .code yX1_passDay cX1_passDay 5 (some .int) :: ((wsX1_passDay_r1 ++ wsX1_passDay_r2) ++ wsX10 ++ wsX00)
def wsX2_init : List Cond := .code yX2_init cX2_init 2 none :: ([.methodLink RX2 3 objectInit, .instanceMethod objectInit, .code objectInit ⟨#[0xb1]⟩ 1 none, .arrayClass .int, .fieldLink RX2 9 "PunchedTicket$Trial" "rides" "[I", .fieldLink RX2 15 "PunchedTicket$Trial" "line" "LPunchedTicket$Line;", .classLink RX2 19 RX1, .instantiable RX1 8, .initialized RX1, .fieldLink RX2 24 "PunchedTicket$Trial" "moment" "LPunchedTicket$Moment;", .methodLink RX2 21 yX1_init, .instanceMethod yX1_init, .code yX1_init cX1_init 2 none, .methodLink RX1 3 objectInit, .fieldLink RX1 9 "PunchedTicket$Moment" "day" "I", .fieldLink RX1 15 "PunchedTicket$Moment" "tickets" "I", .fieldLink RX1 18 "PunchedTicket$Moment" "returns" "I", .fieldLink RX1 21 "PunchedTicket$Moment" "gone" "I", .fieldLink RX1 24 "PunchedTicket$Moment" "at" "[I", .fieldLink RX1 28 "PunchedTicket$Moment" "forDay" "[I", .fieldLink RX1 31 "PunchedTicket$Moment" "holder" "[I", .fieldLink RX1 34 "PunchedTicket$Moment" "line" "LPunchedTicket$Line;"] ++ wsX20 ++ wsX10)
def wsX2_start : List Cond := .code yX2_start cX2_start 2 none :: ([.fieldLink RX2 24 "PunchedTicket$Trial" "moment" "LPunchedTicket$Moment;", .methodLink RX2 28 yX1_copy, .instanceMethod yX1_copy, .selects RX1 yX1_copy yX1_copy, .initialized RX1, .code yX1_copy cX1_copy 2 none, .fieldLink RX1 9 "PunchedTicket$Moment" "day" "I", .fieldLink RX1 15 "PunchedTicket$Moment" "tickets" "I", .fieldLink RX1 18 "PunchedTicket$Moment" "returns" "I", .fieldLink RX1 21 "PunchedTicket$Moment" "gone" "I", .fieldLink RX1 24 "PunchedTicket$Moment" "at" "[I", .methodLink RX1 44 arraycopyName, .native arraycopyName, .static arraycopyName, .initialized "java/lang/System", .fieldLink RX1 28 "PunchedTicket$Moment" "forDay" "[I", .fieldLink RX1 31 "PunchedTicket$Moment" "holder" "[I"] ++ wsX20 ++ wsX10)
def wsX2_addBlank : List Cond := .code yX2_addBlank cX2_addBlank 6 (some .int) :: ([.fieldLink RX2 15 "PunchedTicket$Trial" "line" "LPunchedTicket$Line;", .fieldLink RX2 32 "PunchedTicket$Line" "tickets" "I", .fieldLink RX2 38 "PunchedTicket$Line" "from" "[I", .fieldLink RX2 41 "PunchedTicket$Line" "to" "[I", .fieldLink RX2 24 "PunchedTicket$Trial" "moment" "LPunchedTicket$Moment;", .fieldLink RX2 44 "PunchedTicket$Moment" "forDay" "[I", .fieldLink RX2 47 "PunchedTicket$Moment" "holder" "[I", .fieldLink RX2 50 "PunchedTicket$Moment" "tickets" "I"] ++ wsX20 ++ wsX00 ++ wsX10)
def wsX2_passDaysTo_r1 : List Cond := [Cond.fieldLink RX2 24 "PunchedTicket$Trial" "moment" "LPunchedTicket$Moment;", Cond.fieldLink RX2 51 "PunchedTicket$Moment" "day" "I", Cond.fieldLink RX2 9 "PunchedTicket$Trial" "rides" "[I", Cond.methodLink RX2 54 yX1_passDay, Cond.instanceMethod yX1_passDay, Cond.selects RX1 yX1_passDay yX1_passDay, Cond.initialized RX1, Cond.code yX1_passDay cX1_passDay 5 (some .int), Cond.fieldLink RX1 34 "PunchedTicket$Moment" "line" "LPunchedTicket$Line;", Cond.fieldLink RX1 65 "PunchedTicket$Line" "people" "I", Cond.fieldLink RX1 24 "PunchedTicket$Moment" "at" "[I", Cond.fieldLink RX1 9 "PunchedTicket$Moment" "day" "I", Cond.methodLink RX1 81 yX1_findRides, Cond.instanceMethod yX1_findRides, Cond.selects RX1 yX1_findRides yX1_findRides, Cond.code yX1_findRides cX1_findRides 4 none, Cond.fieldLink RX1 15 "PunchedTicket$Moment" "tickets" "I", Cond.fieldLink RX1 31 "PunchedTicket$Moment" "holder" "[I", Cond.fieldLink RX1 28 "PunchedTicket$Moment" "forDay" "[I", Cond.methodLink RX1 71 yX0_hasPerson, Cond.instanceMethod yX0_hasPerson, Cond.selects RX0 yX0_hasPerson yX0_hasPerson, Cond.initialized RX0, Cond.code yX0_hasPerson cX0_hasPerson 2 (some .boolean)]
def wsX2_passDaysTo_r2 : List Cond := [Cond.fieldLink RX0 9 "PunchedTicket$Line" "people" "I", Cond.methodLink RX1 74 yX1_canTake, Cond.instanceMethod yX1_canTake, Cond.selects RX1 yX1_canTake yX1_canTake, Cond.code yX1_canTake cX1_canTake 5 (some .boolean), Cond.fieldLink RX1 18 "PunchedTicket$Moment" "returns" "I", Cond.fieldLink RX1 56 "PunchedTicket$Line" "to" "[I", Cond.fieldLink RX1 59 "PunchedTicket$Line" "from" "[I", Cond.fieldLink RX1 21 "PunchedTicket$Moment" "gone" "I", Cond.fieldLink RX1 78 "PunchedTicket$Line" "kind" "[I", Cond.methodLink RX1 85 yX1_hasTicket, Cond.instanceMethod yX1_hasTicket, Cond.selects RX1 yX1_hasTicket yX1_hasTicket, Cond.code yX1_hasTicket cX1_hasTicket 2 (some .boolean), Cond.methodLink RX1 88 yX1_to, Cond.instanceMethod yX1_to, Cond.selects RX1 yX1_to yX1_to, Cond.code yX1_to cX1_to 2 (some .int), Cond.methodLink RX1 52 yX1_isReturn, Cond.instanceMethod yX1_isReturn, Cond.selects RX1 yX1_isReturn yX1_isReturn, Cond.code yX1_isReturn cX1_isReturn 2 (some .boolean), Cond.methodLink RX1 91 yX1_useTicket, Cond.instanceMethod yX1_useTicket]
def wsX2_passDaysTo_r3 : List Cond := [Cond.selects RX1 yX1_useTicket yX1_useTicket, Cond.code yX1_useTicket cX1_useTicket 4 none]
def wsX2_passDaysTo : List Cond := .code yX2_passDaysTo cX2_passDaysTo 3 none :: ((wsX2_passDaysTo_r1 ++ (wsX2_passDaysTo_r2 ++ wsX2_passDaysTo_r3)) ++ wsX20 ++ wsX10 ++ wsX00)
def wsJ6_bitCount_0f7a4 : List Cond := .code yJ6_bitCount_0f7a4 cJ6_bitCount_0f7a4 1 (some .int) :: ([.constant RJ6 265 (1431655765), .constant RJ6 266 (858993459), .constant RJ6 267 (252645135)])
def wsX2_journeysToEnd_r1 : List Cond := [Cond.fieldLink RX2 24 "PunchedTicket$Trial" "moment" "LPunchedTicket$Moment;", Cond.fieldLink RX2 51 "PunchedTicket$Moment" "day" "I", Cond.fieldLink RX2 9 "PunchedTicket$Trial" "rides" "[I", Cond.methodLink RX2 54 yX1_passDay, Cond.instanceMethod yX1_passDay, Cond.selects RX1 yX1_passDay yX1_passDay, Cond.initialized RX1, Cond.code yX1_passDay cX1_passDay 5 (some .int), Cond.fieldLink RX1 34 "PunchedTicket$Moment" "line" "LPunchedTicket$Line;", Cond.fieldLink RX1 65 "PunchedTicket$Line" "people" "I", Cond.fieldLink RX1 24 "PunchedTicket$Moment" "at" "[I", Cond.fieldLink RX1 9 "PunchedTicket$Moment" "day" "I", Cond.methodLink RX1 81 yX1_findRides, Cond.instanceMethod yX1_findRides, Cond.selects RX1 yX1_findRides yX1_findRides, Cond.code yX1_findRides cX1_findRides 4 none, Cond.fieldLink RX1 15 "PunchedTicket$Moment" "tickets" "I", Cond.fieldLink RX1 31 "PunchedTicket$Moment" "holder" "[I", Cond.fieldLink RX1 28 "PunchedTicket$Moment" "forDay" "[I", Cond.methodLink RX1 71 yX0_hasPerson, Cond.instanceMethod yX0_hasPerson, Cond.selects RX0 yX0_hasPerson yX0_hasPerson, Cond.initialized RX0, Cond.code yX0_hasPerson cX0_hasPerson 2 (some .boolean)]
def wsX2_journeysToEnd_r2 : List Cond := [Cond.fieldLink RX0 9 "PunchedTicket$Line" "people" "I", Cond.methodLink RX1 74 yX1_canTake, Cond.instanceMethod yX1_canTake, Cond.selects RX1 yX1_canTake yX1_canTake, Cond.code yX1_canTake cX1_canTake 5 (some .boolean), Cond.fieldLink RX1 18 "PunchedTicket$Moment" "returns" "I", Cond.fieldLink RX1 56 "PunchedTicket$Line" "to" "[I", Cond.fieldLink RX1 59 "PunchedTicket$Line" "from" "[I", Cond.fieldLink RX1 21 "PunchedTicket$Moment" "gone" "I", Cond.fieldLink RX1 78 "PunchedTicket$Line" "kind" "[I", Cond.methodLink RX1 85 yX1_hasTicket, Cond.instanceMethod yX1_hasTicket, Cond.selects RX1 yX1_hasTicket yX1_hasTicket, Cond.code yX1_hasTicket cX1_hasTicket 2 (some .boolean), Cond.methodLink RX1 88 yX1_to, Cond.instanceMethod yX1_to, Cond.selects RX1 yX1_to yX1_to, Cond.code yX1_to cX1_to 2 (some .int), Cond.methodLink RX1 52 yX1_isReturn, Cond.instanceMethod yX1_isReturn, Cond.selects RX1 yX1_isReturn yX1_isReturn, Cond.code yX1_isReturn cX1_isReturn 2 (some .boolean), Cond.methodLink RX1 91 yX1_useTicket, Cond.instanceMethod yX1_useTicket]
def wsX2_journeysToEnd_r3 : List Cond := [Cond.selects RX1 yX1_useTicket yX1_useTicket, Cond.code yX1_useTicket cX1_useTicket 4 none, Cond.methodLink RX2 58 yJ6_bitCount_0f7a4, Cond.static yJ6_bitCount_0f7a4, Cond.initialized RJ6, Cond.code yJ6_bitCount_0f7a4 cJ6_bitCount_0f7a4 1 (some .int), Cond.constant RJ6 265 (1431655765), Cond.constant RJ6 266 (858993459), Cond.constant RJ6 267 (252645135)]
def wsX2_journeysToEnd : List Cond := .code yX2_journeysToEnd cX2_journeysToEnd 3 (some .int) :: ((wsX2_journeysToEnd_r1 ++ (wsX2_journeysToEnd_r2 ++ wsX2_journeysToEnd_r3)) ++ wsX20 ++ wsX10 ++ wsX00)
def wsX2_gladAtEnd_r1 : List Cond := [Cond.fieldLink RX2 24 "PunchedTicket$Trial" "moment" "LPunchedTicket$Moment;", Cond.methodLink RX2 64 yX2_passDaysTo, Cond.instanceMethod yX2_passDaysTo, Cond.selects RX2 yX2_passDaysTo yX2_passDaysTo, Cond.initialized RX2, Cond.code yX2_passDaysTo cX2_passDaysTo 3 none, Cond.fieldLink RX2 51 "PunchedTicket$Moment" "day" "I", Cond.fieldLink RX2 9 "PunchedTicket$Trial" "rides" "[I", Cond.methodLink RX2 54 yX1_passDay, Cond.instanceMethod yX1_passDay, Cond.selects RX1 yX1_passDay yX1_passDay, Cond.initialized RX1, Cond.code yX1_passDay cX1_passDay 5 (some .int), Cond.fieldLink RX1 34 "PunchedTicket$Moment" "line" "LPunchedTicket$Line;", Cond.fieldLink RX1 65 "PunchedTicket$Line" "people" "I", Cond.fieldLink RX1 24 "PunchedTicket$Moment" "at" "[I", Cond.fieldLink RX1 9 "PunchedTicket$Moment" "day" "I", Cond.methodLink RX1 81 yX1_findRides, Cond.instanceMethod yX1_findRides, Cond.selects RX1 yX1_findRides yX1_findRides, Cond.code yX1_findRides cX1_findRides 4 none, Cond.fieldLink RX1 15 "PunchedTicket$Moment" "tickets" "I", Cond.fieldLink RX1 31 "PunchedTicket$Moment" "holder" "[I", Cond.fieldLink RX1 28 "PunchedTicket$Moment" "forDay" "[I"]
def wsX2_gladAtEnd_r2 : List Cond := [Cond.methodLink RX1 71 yX0_hasPerson, Cond.instanceMethod yX0_hasPerson, Cond.selects RX0 yX0_hasPerson yX0_hasPerson, Cond.initialized RX0, Cond.code yX0_hasPerson cX0_hasPerson 2 (some .boolean), Cond.fieldLink RX0 9 "PunchedTicket$Line" "people" "I", Cond.methodLink RX1 74 yX1_canTake, Cond.instanceMethod yX1_canTake, Cond.selects RX1 yX1_canTake yX1_canTake, Cond.code yX1_canTake cX1_canTake 5 (some .boolean), Cond.fieldLink RX1 18 "PunchedTicket$Moment" "returns" "I", Cond.fieldLink RX1 56 "PunchedTicket$Line" "to" "[I", Cond.fieldLink RX1 59 "PunchedTicket$Line" "from" "[I", Cond.fieldLink RX1 21 "PunchedTicket$Moment" "gone" "I", Cond.fieldLink RX1 78 "PunchedTicket$Line" "kind" "[I", Cond.methodLink RX1 85 yX1_hasTicket, Cond.instanceMethod yX1_hasTicket, Cond.selects RX1 yX1_hasTicket yX1_hasTicket, Cond.code yX1_hasTicket cX1_hasTicket 2 (some .boolean), Cond.methodLink RX1 88 yX1_to, Cond.instanceMethod yX1_to, Cond.selects RX1 yX1_to yX1_to, Cond.code yX1_to cX1_to 2 (some .int), Cond.methodLink RX1 52 yX1_isReturn]
def wsX2_gladAtEnd_r3 : List Cond := [Cond.instanceMethod yX1_isReturn, Cond.selects RX1 yX1_isReturn yX1_isReturn, Cond.code yX1_isReturn cX1_isReturn 2 (some .boolean), Cond.methodLink RX1 91 yX1_useTicket, Cond.instanceMethod yX1_useTicket, Cond.selects RX1 yX1_useTicket yX1_useTicket, Cond.code yX1_useTicket cX1_useTicket 4 none, Cond.methodLink RX2 68 yX1_gladNow, Cond.instanceMethod yX1_gladNow, Cond.selects RX1 yX1_gladNow yX1_gladNow, Cond.code yX1_gladNow cX1_gladNow 3 (some .int), Cond.fieldLink RX1 68 "PunchedTicket$Line" "liked" "[I"]
def wsX2_gladAtEnd : List Cond := .code yX2_gladAtEnd cX2_gladAtEnd 1 (some .int) :: ((wsX2_gladAtEnd_r1 ++ (wsX2_gladAtEnd_r2 ++ wsX2_gladAtEnd_r3)) ++ wsX20 ++ wsX10 ++ wsX00)
def wsX2_lowEnd : List Cond := .code yX2_lowEnd cX2_lowEnd 2 (some .int) :: ([.fieldLink RX2 15 "PunchedTicket$Trial" "line" "LPunchedTicket$Line;", .fieldLink RX2 38 "PunchedTicket$Line" "from" "[I", .fieldLink RX2 41 "PunchedTicket$Line" "to" "[I", .methodLink RX2 95 Lib.Math.min.name, .static Lib.Math.min.name, .initialized "java/lang/Math", .code Lib.Math.min.name Lib.Math.min.code 2 (some .int)] ++ wsX20 ++ wsX00)
def wsX2_highEnd : List Cond := .code yX2_highEnd cX2_highEnd 2 (some .int) :: ([.fieldLink RX2 15 "PunchedTicket$Trial" "line" "LPunchedTicket$Line;", .fieldLink RX2 38 "PunchedTicket$Line" "from" "[I", .fieldLink RX2 41 "PunchedTicket$Line" "to" "[I", .methodLink RX2 86 Lib.Math.max.name, .static Lib.Math.max.name, .initialized "java/lang/Math", .code Lib.Math.max.name Lib.Math.max.code 2 (some .int)] ++ wsX20 ++ wsX00)
def wsX2_wentTogether_r1 : List Cond := [Cond.fieldLink RX2 9 "PunchedTicket$Trial" "rides" "[I", Cond.fieldLink RX2 24 "PunchedTicket$Trial" "moment" "LPunchedTicket$Moment;", Cond.methodLink RX2 86 Lib.Math.max.name, Cond.static Lib.Math.max.name, Cond.initialized "java/lang/Math", Cond.code Lib.Math.max.name Lib.Math.max.code 2 (some .int), Cond.methodLink RX2 95 Lib.Math.min.name, Cond.static Lib.Math.min.name, Cond.code Lib.Math.min.name Lib.Math.min.code 2 (some .int), Cond.methodLink RX2 79 yX1_hasTicket, Cond.instanceMethod yX1_hasTicket, Cond.selects RX1 yX1_hasTicket yX1_hasTicket, Cond.initialized RX1, Cond.code yX1_hasTicket cX1_hasTicket 2 (some .boolean), Cond.fieldLink RX1 15 "PunchedTicket$Moment" "tickets" "I", Cond.methodLink RX2 83 yX2_lowEnd, Cond.instanceMethod yX2_lowEnd, Cond.selects RX2 yX2_lowEnd yX2_lowEnd, Cond.initialized RX2, Cond.code yX2_lowEnd cX2_lowEnd 2 (some .int), Cond.fieldLink RX2 15 "PunchedTicket$Trial" "line" "LPunchedTicket$Line;", Cond.fieldLink RX2 38 "PunchedTicket$Line" "from" "[I", Cond.fieldLink RX2 41 "PunchedTicket$Line" "to" "[I", Cond.methodLink RX2 92 yX2_highEnd]
def wsX2_wentTogether_r2 : List Cond := [Cond.instanceMethod yX2_highEnd, Cond.selects RX2 yX2_highEnd yX2_highEnd, Cond.code yX2_highEnd cX2_highEnd 2 (some .int)]
def wsX2_wentTogether : List Cond := .code yX2_wentTogether cX2_wentTogether 5 (some .boolean) :: ((wsX2_wentTogether_r1 ++ wsX2_wentTogether_r2) ++ wsX20 ++ wsX10 ++ wsX00)
def wsX2_firstMeeting_r1 : List Cond := [Cond.fieldLink RX2 24 "PunchedTicket$Trial" "moment" "LPunchedTicket$Moment;", Cond.fieldLink RX2 51 "PunchedTicket$Moment" "day" "I", Cond.fieldLink RX2 9 "PunchedTicket$Trial" "rides" "[I", Cond.methodLink RX2 54 yX1_passDay, Cond.instanceMethod yX1_passDay, Cond.selects RX1 yX1_passDay yX1_passDay, Cond.initialized RX1, Cond.code yX1_passDay cX1_passDay 5 (some .int), Cond.fieldLink RX1 34 "PunchedTicket$Moment" "line" "LPunchedTicket$Line;", Cond.fieldLink RX1 65 "PunchedTicket$Line" "people" "I", Cond.fieldLink RX1 24 "PunchedTicket$Moment" "at" "[I", Cond.fieldLink RX1 9 "PunchedTicket$Moment" "day" "I", Cond.methodLink RX1 81 yX1_findRides, Cond.instanceMethod yX1_findRides, Cond.selects RX1 yX1_findRides yX1_findRides, Cond.code yX1_findRides cX1_findRides 4 none, Cond.fieldLink RX1 15 "PunchedTicket$Moment" "tickets" "I", Cond.fieldLink RX1 31 "PunchedTicket$Moment" "holder" "[I", Cond.fieldLink RX1 28 "PunchedTicket$Moment" "forDay" "[I", Cond.methodLink RX1 71 yX0_hasPerson, Cond.instanceMethod yX0_hasPerson, Cond.selects RX0 yX0_hasPerson yX0_hasPerson, Cond.initialized RX0, Cond.code yX0_hasPerson cX0_hasPerson 2 (some .boolean)]
def wsX2_firstMeeting_r2 : List Cond := [Cond.fieldLink RX0 9 "PunchedTicket$Line" "people" "I", Cond.methodLink RX1 74 yX1_canTake, Cond.instanceMethod yX1_canTake, Cond.selects RX1 yX1_canTake yX1_canTake, Cond.code yX1_canTake cX1_canTake 5 (some .boolean), Cond.fieldLink RX1 18 "PunchedTicket$Moment" "returns" "I", Cond.fieldLink RX1 56 "PunchedTicket$Line" "to" "[I", Cond.fieldLink RX1 59 "PunchedTicket$Line" "from" "[I", Cond.fieldLink RX1 21 "PunchedTicket$Moment" "gone" "I", Cond.fieldLink RX1 78 "PunchedTicket$Line" "kind" "[I", Cond.methodLink RX1 85 yX1_hasTicket, Cond.instanceMethod yX1_hasTicket, Cond.selects RX1 yX1_hasTicket yX1_hasTicket, Cond.code yX1_hasTicket cX1_hasTicket 2 (some .boolean), Cond.methodLink RX1 88 yX1_to, Cond.instanceMethod yX1_to, Cond.selects RX1 yX1_to yX1_to, Cond.code yX1_to cX1_to 2 (some .int), Cond.methodLink RX1 52 yX1_isReturn, Cond.instanceMethod yX1_isReturn, Cond.selects RX1 yX1_isReturn yX1_isReturn, Cond.code yX1_isReturn cX1_isReturn 2 (some .boolean), Cond.methodLink RX1 91 yX1_useTicket, Cond.instanceMethod yX1_useTicket]
def wsX2_firstMeeting_r3 : List Cond := [Cond.selects RX1 yX1_useTicket yX1_useTicket, Cond.code yX1_useTicket cX1_useTicket 4 none, Cond.methodLink RX2 72 yX2_wentTogether, Cond.instanceMethod yX2_wentTogether, Cond.selects RX2 yX2_wentTogether yX2_wentTogether, Cond.initialized RX2, Cond.code yX2_wentTogether cX2_wentTogether 5 (some .boolean), Cond.methodLink RX2 86 Lib.Math.max.name, Cond.static Lib.Math.max.name, Cond.initialized "java/lang/Math", Cond.code Lib.Math.max.name Lib.Math.max.code 2 (some .int), Cond.methodLink RX2 95 Lib.Math.min.name, Cond.static Lib.Math.min.name, Cond.code Lib.Math.min.name Lib.Math.min.code 2 (some .int), Cond.methodLink RX2 79 yX1_hasTicket, Cond.methodLink RX2 83 yX2_lowEnd, Cond.instanceMethod yX2_lowEnd, Cond.selects RX2 yX2_lowEnd yX2_lowEnd, Cond.code yX2_lowEnd cX2_lowEnd 2 (some .int), Cond.fieldLink RX2 15 "PunchedTicket$Trial" "line" "LPunchedTicket$Line;", Cond.fieldLink RX2 38 "PunchedTicket$Line" "from" "[I", Cond.fieldLink RX2 41 "PunchedTicket$Line" "to" "[I", Cond.methodLink RX2 92 yX2_highEnd, Cond.instanceMethod yX2_highEnd]
def wsX2_firstMeeting_r4 : List Cond := [Cond.selects RX2 yX2_highEnd yX2_highEnd, Cond.code yX2_highEnd cX2_highEnd 2 (some .int)]
def wsX2_firstMeeting : List Cond := .code yX2_firstMeeting cX2_firstMeeting 4 (some .int) :: ((wsX2_firstMeeting_r1 ++ (wsX2_firstMeeting_r2 ++ (wsX2_firstMeeting_r3 ++ wsX2_firstMeeting_r4))) ++ wsX20 ++ wsX10 ++ wsX00)
def wsX2_barredByPair : List Cond := .code yX2_barredByPair cX2_barredByPair 4 (some .int) :: ([.fieldLink RX2 15 "PunchedTicket$Trial" "line" "LPunchedTicket$Line;", .fieldLink RX2 105 "PunchedTicket$Line" "seat" "[I"] ++ wsX20 ++ wsX00)
def wsX2_barredSeats_r1 : List Cond := [Cond.fieldLink RX2 15 "PunchedTicket$Trial" "line" "LPunchedTicket$Line;", Cond.fieldLink RX2 98 "PunchedTicket$Line" "people" "I", Cond.fieldLink RX2 9 "PunchedTicket$Trial" "rides" "[I", Cond.methodLink RX2 72 yX2_wentTogether, Cond.instanceMethod yX2_wentTogether, Cond.selects RX2 yX2_wentTogether yX2_wentTogether, Cond.initialized RX2, Cond.code yX2_wentTogether cX2_wentTogether 5 (some .boolean), Cond.fieldLink RX2 24 "PunchedTicket$Trial" "moment" "LPunchedTicket$Moment;", Cond.methodLink RX2 86 Lib.Math.max.name, Cond.static Lib.Math.max.name, Cond.initialized "java/lang/Math", Cond.code Lib.Math.max.name Lib.Math.max.code 2 (some .int), Cond.methodLink RX2 95 Lib.Math.min.name, Cond.static Lib.Math.min.name, Cond.code Lib.Math.min.name Lib.Math.min.code 2 (some .int), Cond.methodLink RX2 79 yX1_hasTicket, Cond.instanceMethod yX1_hasTicket, Cond.selects RX1 yX1_hasTicket yX1_hasTicket, Cond.initialized RX1, Cond.code yX1_hasTicket cX1_hasTicket 2 (some .boolean), Cond.fieldLink RX1 15 "PunchedTicket$Moment" "tickets" "I", Cond.methodLink RX2 83 yX2_lowEnd, Cond.instanceMethod yX2_lowEnd]
def wsX2_barredSeats_r2 : List Cond := [Cond.selects RX2 yX2_lowEnd yX2_lowEnd, Cond.code yX2_lowEnd cX2_lowEnd 2 (some .int), Cond.fieldLink RX2 38 "PunchedTicket$Line" "from" "[I", Cond.fieldLink RX2 41 "PunchedTicket$Line" "to" "[I", Cond.methodLink RX2 92 yX2_highEnd, Cond.instanceMethod yX2_highEnd, Cond.selects RX2 yX2_highEnd yX2_highEnd, Cond.code yX2_highEnd cX2_highEnd 2 (some .int), Cond.methodLink RX2 101 yX2_barredByPair, Cond.instanceMethod yX2_barredByPair, Cond.selects RX2 yX2_barredByPair yX2_barredByPair, Cond.code yX2_barredByPair cX2_barredByPair 4 (some .int), Cond.fieldLink RX2 105 "PunchedTicket$Line" "seat" "[I"]
def wsX2_barredSeats : List Cond := .code yX2_barredSeats cX2_barredSeats 5 (some .int) :: ((wsX2_barredSeats_r1 ++ wsX2_barredSeats_r2) ++ wsX20 ++ wsX00 ++ wsX10)
def wsX2_firstDouble_r1 : List Cond := [Cond.fieldLink RX2 24 "PunchedTicket$Trial" "moment" "LPunchedTicket$Moment;", Cond.fieldLink RX2 51 "PunchedTicket$Moment" "day" "I", Cond.fieldLink RX2 9 "PunchedTicket$Trial" "rides" "[I", Cond.methodLink RX2 54 yX1_passDay, Cond.instanceMethod yX1_passDay, Cond.selects RX1 yX1_passDay yX1_passDay, Cond.initialized RX1, Cond.code yX1_passDay cX1_passDay 5 (some .int), Cond.fieldLink RX1 34 "PunchedTicket$Moment" "line" "LPunchedTicket$Line;", Cond.fieldLink RX1 65 "PunchedTicket$Line" "people" "I", Cond.fieldLink RX1 24 "PunchedTicket$Moment" "at" "[I", Cond.fieldLink RX1 9 "PunchedTicket$Moment" "day" "I", Cond.methodLink RX1 81 yX1_findRides, Cond.instanceMethod yX1_findRides, Cond.selects RX1 yX1_findRides yX1_findRides, Cond.code yX1_findRides cX1_findRides 4 none, Cond.fieldLink RX1 15 "PunchedTicket$Moment" "tickets" "I", Cond.fieldLink RX1 31 "PunchedTicket$Moment" "holder" "[I", Cond.fieldLink RX1 28 "PunchedTicket$Moment" "forDay" "[I", Cond.methodLink RX1 71 yX0_hasPerson, Cond.instanceMethod yX0_hasPerson, Cond.selects RX0 yX0_hasPerson yX0_hasPerson, Cond.initialized RX0, Cond.code yX0_hasPerson cX0_hasPerson 2 (some .boolean)]
def wsX2_firstDouble_r2 : List Cond := [Cond.fieldLink RX0 9 "PunchedTicket$Line" "people" "I", Cond.methodLink RX1 74 yX1_canTake, Cond.instanceMethod yX1_canTake, Cond.selects RX1 yX1_canTake yX1_canTake, Cond.code yX1_canTake cX1_canTake 5 (some .boolean), Cond.fieldLink RX1 18 "PunchedTicket$Moment" "returns" "I", Cond.fieldLink RX1 56 "PunchedTicket$Line" "to" "[I", Cond.fieldLink RX1 59 "PunchedTicket$Line" "from" "[I", Cond.fieldLink RX1 21 "PunchedTicket$Moment" "gone" "I", Cond.fieldLink RX1 78 "PunchedTicket$Line" "kind" "[I", Cond.methodLink RX1 85 yX1_hasTicket, Cond.instanceMethod yX1_hasTicket, Cond.selects RX1 yX1_hasTicket yX1_hasTicket, Cond.code yX1_hasTicket cX1_hasTicket 2 (some .boolean), Cond.methodLink RX1 88 yX1_to, Cond.instanceMethod yX1_to, Cond.selects RX1 yX1_to yX1_to, Cond.code yX1_to cX1_to 2 (some .int), Cond.methodLink RX1 52 yX1_isReturn, Cond.instanceMethod yX1_isReturn, Cond.selects RX1 yX1_isReturn yX1_isReturn, Cond.code yX1_isReturn cX1_isReturn 2 (some .boolean), Cond.methodLink RX1 91 yX1_useTicket, Cond.instanceMethod yX1_useTicket]
def wsX2_firstDouble_r3 : List Cond := [Cond.selects RX1 yX1_useTicket yX1_useTicket, Cond.code yX1_useTicket cX1_useTicket 4 none, Cond.methodLink RX2 76 yX2_barredSeats, Cond.instanceMethod yX2_barredSeats, Cond.selects RX2 yX2_barredSeats yX2_barredSeats, Cond.initialized RX2, Cond.code yX2_barredSeats cX2_barredSeats 5 (some .int), Cond.fieldLink RX2 15 "PunchedTicket$Trial" "line" "LPunchedTicket$Line;", Cond.fieldLink RX2 98 "PunchedTicket$Line" "people" "I", Cond.methodLink RX2 72 yX2_wentTogether, Cond.instanceMethod yX2_wentTogether, Cond.selects RX2 yX2_wentTogether yX2_wentTogether, Cond.code yX2_wentTogether cX2_wentTogether 5 (some .boolean), Cond.methodLink RX2 86 Lib.Math.max.name, Cond.static Lib.Math.max.name, Cond.initialized "java/lang/Math", Cond.code Lib.Math.max.name Lib.Math.max.code 2 (some .int), Cond.methodLink RX2 95 Lib.Math.min.name, Cond.static Lib.Math.min.name, Cond.code Lib.Math.min.name Lib.Math.min.code 2 (some .int), Cond.methodLink RX2 79 yX1_hasTicket, Cond.methodLink RX2 83 yX2_lowEnd, Cond.instanceMethod yX2_lowEnd, Cond.selects RX2 yX2_lowEnd yX2_lowEnd]
def wsX2_firstDouble_r4 : List Cond := [Cond.code yX2_lowEnd cX2_lowEnd 2 (some .int), Cond.fieldLink RX2 38 "PunchedTicket$Line" "from" "[I", Cond.fieldLink RX2 41 "PunchedTicket$Line" "to" "[I", Cond.methodLink RX2 92 yX2_highEnd, Cond.instanceMethod yX2_highEnd, Cond.selects RX2 yX2_highEnd yX2_highEnd, Cond.code yX2_highEnd cX2_highEnd 2 (some .int), Cond.methodLink RX2 101 yX2_barredByPair, Cond.instanceMethod yX2_barredByPair, Cond.selects RX2 yX2_barredByPair yX2_barredByPair, Cond.code yX2_barredByPair cX2_barredByPair 4 (some .int), Cond.fieldLink RX2 105 "PunchedTicket$Line" "seat" "[I"]
def wsX2_firstDouble : List Cond := .code yX2_firstDouble cX2_firstDouble 2 (some .int) :: ((wsX2_firstDouble_r1 ++ (wsX2_firstDouble_r2 ++ (wsX2_firstDouble_r3 ++ wsX2_firstDouble_r4))) ++ wsX20 ++ wsX10 ++ wsX00)
def wsX3_init_r1 : List Cond := [Cond.methodLink RX3 3 objectInit, Cond.instanceMethod objectInit, Cond.code objectInit ⟨#[0xb1]⟩ 1 none, Cond.arrayClass .int, Cond.fieldLink RX3 9 "PunchedTicket" "text" "[I", Cond.fieldLink RX3 13 "PunchedTicket" "letters" "I", Cond.classLink RX3 17 RX0, Cond.instantiable RX0 10, Cond.initialized RX0, Cond.fieldLink RX3 20 "PunchedTicket" "told" "LPunchedTicket$Line;", Cond.fieldLink RX3 24 "PunchedTicket" "draft" "LPunchedTicket$Line;", Cond.classLink RX3 27 RX1, Cond.instantiable RX1 8, Cond.initialized RX1, Cond.fieldLink RX3 32 "PunchedTicket" "now" "LPunchedTicket$Moment;", Cond.fieldLink RX3 36 "PunchedTicket" "acts" "[LPunchedTicket$Moment;", Cond.fieldLink RX3 40 "PunchedTicket" "firstAct" "I", Cond.fieldLink RX3 43 "PunchedTicket" "actsInRow" "I", Cond.fieldLink RX3 46 "PunchedTicket" "kept" "[LPunchedTicket$Moment;", Cond.fieldLink RX3 49 "PunchedTicket" "keptSlots" "I", Cond.fieldLink RX3 52 "PunchedTicket" "seenPerson" "[I", Cond.fieldLink RX3 55 "PunchedTicket" "seenStop" "[I", Cond.fieldLink RX3 58 "PunchedTicket" "seenDay" "[I", Cond.fieldLink RX3 61 "PunchedTicket" "seenCount" "I"]
def wsX3_init_r2 : List Cond := [Cond.fieldLink RX3 64 "PunchedTicket" "theSeed" "J", Cond.classLink RX3 68 RX2, Cond.instantiable RX2 3, Cond.initialized RX2, Cond.fieldLink RX3 71 "PunchedTicket" "trial" "LPunchedTicket$Trial;", Cond.fieldLink RX3 75 "PunchedTicket" "idleAt" "[I", Cond.instanceMethod yX0_init, Cond.code yX0_init cX0_init 1 none, Cond.methodLink RX0 3 objectInit, Cond.fieldLink RX0 9 "PunchedTicket$Line" "people" "I", Cond.fieldLink RX0 15 "PunchedTicket$Line" "tickets" "I", Cond.fieldLink RX0 18 "PunchedTicket$Line" "home" "[I", Cond.fieldLink RX0 22 "PunchedTicket$Line" "liked" "[I", Cond.fieldLink RX0 25 "PunchedTicket$Line" "kind" "[I", Cond.fieldLink RX0 28 "PunchedTicket$Line" "forDay" "[I", Cond.fieldLink RX0 31 "PunchedTicket$Line" "from" "[I", Cond.fieldLink RX0 34 "PunchedTicket$Line" "to" "[I", Cond.fieldLink RX0 37 "PunchedTicket$Line" "seat" "[I", Cond.fieldLink RX0 40 "PunchedTicket$Line" "holder" "[I", Cond.methodLink RX3 29 yX1_init, Cond.instanceMethod yX1_init, Cond.code yX1_init cX1_init 2 none, Cond.methodLink RX1 3 objectInit, Cond.fieldLink RX1 9 "PunchedTicket$Moment" "day" "I"]
def wsX3_init_r3 : List Cond := [Cond.fieldLink RX1 15 "PunchedTicket$Moment" "tickets" "I", Cond.fieldLink RX1 18 "PunchedTicket$Moment" "returns" "I", Cond.fieldLink RX1 21 "PunchedTicket$Moment" "gone" "I", Cond.fieldLink RX1 24 "PunchedTicket$Moment" "at" "[I", Cond.fieldLink RX1 28 "PunchedTicket$Moment" "forDay" "[I", Cond.fieldLink RX1 31 "PunchedTicket$Moment" "holder" "[I", Cond.fieldLink RX1 34 "PunchedTicket$Moment" "line" "LPunchedTicket$Line;", Cond.methodLink RX3 70 yX2_init, Cond.instanceMethod yX2_init, Cond.code yX2_init cX2_init 2 none, Cond.methodLink RX2 3 objectInit, Cond.fieldLink RX2 9 "PunchedTicket$Trial" "rides" "[I", Cond.fieldLink RX2 15 "PunchedTicket$Trial" "line" "LPunchedTicket$Line;", Cond.classLink RX2 19 RX1, Cond.fieldLink RX2 24 "PunchedTicket$Trial" "moment" "LPunchedTicket$Moment;", Cond.methodLink RX2 21 yX1_init]
def wsX3_init : List Cond := .code yX3_init cX3_init 1 none :: ((wsX3_init_r1 ++ (wsX3_init_r2 ++ wsX3_init_r3)) ++ wsX30 ++ wsX00 ++ wsX10 ++ wsX20)
def wsX3_write : List Cond := .code yX3_write cX3_write 2 (some .int) :: ([.fieldLink RX3 13 "PunchedTicket" "letters" "I", .fieldLink RX3 9 "PunchedTicket" "text" "[I"] ++ wsX30)
def wsX3_wipe : List Cond := .code yX3_wipe cX3_wipe 2 (some .int) :: ([.fieldLink RX3 13 "PunchedTicket" "letters" "I"] ++ wsX30)
def wsX3_fault_r1 : List Cond := [Cond.fieldLink RX3 24 "PunchedTicket" "draft" "LPunchedTicket$Line;", Cond.fieldLink RX3 9 "PunchedTicket" "text" "[I", Cond.fieldLink RX3 13 "PunchedTicket" "letters" "I", Cond.methodLink RX3 78 yX0_read, Cond.instanceMethod yX0_read, Cond.selects RX0 yX0_read yX0_read, Cond.initialized RX0, Cond.code yX0_read cX0_read 6 (some .int), Cond.fieldLink RX0 9 "PunchedTicket$Line" "people" "I", Cond.fieldLink RX0 15 "PunchedTicket$Line" "tickets" "I", Cond.methodLink RX0 49 yX0_partSize, Cond.instanceMethod yX0_partSize, Cond.selects RX0 yX0_partSize yX0_partSize, Cond.code yX0_partSize cX0_partSize 2 (some .int), Cond.methodLink RX0 53 yX0_partFault, Cond.instanceMethod yX0_partFault, Cond.selects RX0 yX0_partFault yX0_partFault, Cond.code yX0_partFault cX0_partFault 7 (some .int), Cond.methodLink RX0 61 yX0_figureFits, Cond.instanceMethod yX0_figureFits, Cond.selects RX0 yX0_figureFits yX0_figureFits, Cond.code yX0_figureFits cX0_figureFits 6 (some .boolean), Cond.methodLink RX0 57 yX0_takePart, Cond.instanceMethod yX0_takePart]
def wsX3_fault_r2 : List Cond := [Cond.selects RX0 yX0_takePart yX0_takePart, Cond.code yX0_takePart cX0_takePart 4 none, Cond.fieldLink RX0 18 "PunchedTicket$Line" "home" "[I", Cond.fieldLink RX0 22 "PunchedTicket$Line" "liked" "[I", Cond.fieldLink RX0 25 "PunchedTicket$Line" "kind" "[I", Cond.fieldLink RX0 28 "PunchedTicket$Line" "forDay" "[I", Cond.fieldLink RX0 31 "PunchedTicket$Line" "from" "[I", Cond.fieldLink RX0 34 "PunchedTicket$Line" "to" "[I", Cond.fieldLink RX0 37 "PunchedTicket$Line" "seat" "[I", Cond.fieldLink RX0 40 "PunchedTicket$Line" "holder" "[I"]
def wsX3_fault : List Cond := .code yX3_fault cX3_fault 1 (some .int) :: ((wsX3_fault_r1 ++ wsX3_fault_r2) ++ wsX30 ++ wsX00)
def wsX3_forgetActs : List Cond := .code yX3_forgetActs cX3_forgetActs 1 none :: ([.fieldLink RX3 40 "PunchedTicket" "firstAct" "I", .fieldLink RX3 43 "PunchedTicket" "actsInRow" "I"] ++ wsX30)
def wsX3_line_r1 : List Cond := [Cond.fieldLink RX3 24 "PunchedTicket" "draft" "LPunchedTicket$Line;", Cond.fieldLink RX3 9 "PunchedTicket" "text" "[I", Cond.fieldLink RX3 13 "PunchedTicket" "letters" "I", Cond.fieldLink RX3 20 "PunchedTicket" "told" "LPunchedTicket$Line;", Cond.fieldLink RX3 32 "PunchedTicket" "now" "LPunchedTicket$Moment;", Cond.fieldLink RX3 49 "PunchedTicket" "keptSlots" "I", Cond.fieldLink RX3 91 "PunchedTicket$Line" "people" "I", Cond.fieldLink RX3 94 "PunchedTicket$Line" "tickets" "I", Cond.methodLink RX3 78 yX0_read, Cond.instanceMethod yX0_read, Cond.selects RX0 yX0_read yX0_read, Cond.initialized RX0, Cond.code yX0_read cX0_read 6 (some .int), Cond.fieldLink RX0 9 "PunchedTicket$Line" "people" "I", Cond.fieldLink RX0 15 "PunchedTicket$Line" "tickets" "I", Cond.methodLink RX0 49 yX0_partSize, Cond.instanceMethod yX0_partSize, Cond.selects RX0 yX0_partSize yX0_partSize, Cond.code yX0_partSize cX0_partSize 2 (some .int), Cond.methodLink RX0 53 yX0_partFault, Cond.instanceMethod yX0_partFault, Cond.selects RX0 yX0_partFault yX0_partFault, Cond.code yX0_partFault cX0_partFault 7 (some .int), Cond.methodLink RX0 61 yX0_figureFits]
def wsX3_line_r2 : List Cond := [Cond.instanceMethod yX0_figureFits, Cond.selects RX0 yX0_figureFits yX0_figureFits, Cond.code yX0_figureFits cX0_figureFits 6 (some .boolean), Cond.methodLink RX0 57 yX0_takePart, Cond.instanceMethod yX0_takePart, Cond.selects RX0 yX0_takePart yX0_takePart, Cond.code yX0_takePart cX0_takePart 4 none, Cond.fieldLink RX0 18 "PunchedTicket$Line" "home" "[I", Cond.fieldLink RX0 22 "PunchedTicket$Line" "liked" "[I", Cond.fieldLink RX0 25 "PunchedTicket$Line" "kind" "[I", Cond.fieldLink RX0 28 "PunchedTicket$Line" "forDay" "[I", Cond.fieldLink RX0 31 "PunchedTicket$Line" "from" "[I", Cond.fieldLink RX0 34 "PunchedTicket$Line" "to" "[I", Cond.fieldLink RX0 37 "PunchedTicket$Line" "seat" "[I", Cond.fieldLink RX0 40 "PunchedTicket$Line" "holder" "[I", Cond.methodLink RX3 82 yX0_copy, Cond.instanceMethod yX0_copy, Cond.selects RX0 yX0_copy yX0_copy, Cond.code yX0_copy cX0_copy 2 none, Cond.methodLink RX0 43 arraycopyName, Cond.native arraycopyName, Cond.static arraycopyName, Cond.initialized "java/lang/System", Cond.methodLink RX3 85 yX1_begin]
def wsX3_line_r3 : List Cond := [Cond.instanceMethod yX1_begin, Cond.selects RX1 yX1_begin yX1_begin, Cond.initialized RX1, Cond.code yX1_begin cX1_begin 1 none, Cond.fieldLink RX1 9 "PunchedTicket$Moment" "day" "I", Cond.fieldLink RX1 34 "PunchedTicket$Moment" "line" "LPunchedTicket$Line;", Cond.fieldLink RX1 38 "PunchedTicket$Line" "tickets" "I", Cond.fieldLink RX1 15 "PunchedTicket$Moment" "tickets" "I", Cond.fieldLink RX1 18 "PunchedTicket$Moment" "returns" "I", Cond.fieldLink RX1 21 "PunchedTicket$Moment" "gone" "I", Cond.fieldLink RX1 41 "PunchedTicket$Line" "home" "[I", Cond.fieldLink RX1 24 "PunchedTicket$Moment" "at" "[I", Cond.methodLink RX1 44 arraycopyName, Cond.fieldLink RX1 50 "PunchedTicket$Line" "forDay" "[I", Cond.fieldLink RX1 28 "PunchedTicket$Moment" "forDay" "[I", Cond.fieldLink RX1 51 "PunchedTicket$Line" "holder" "[I", Cond.fieldLink RX1 31 "PunchedTicket$Moment" "holder" "[I", Cond.methodLink RX3 88 yX3_forgetActs, Cond.instanceMethod yX3_forgetActs, Cond.selects RX3 yX3_forgetActs yX3_forgetActs, Cond.initialized RX3, Cond.code yX3_forgetActs cX3_forgetActs 1 none, Cond.fieldLink RX3 40 "PunchedTicket" "firstAct" "I", Cond.fieldLink RX3 43 "PunchedTicket" "actsInRow" "I"]
def wsX3_line : List Cond := .code yX3_line cX3_line 1 (some .int) :: ((wsX3_line_r1 ++ (wsX3_line_r2 ++ wsX3_line_r3)) ++ wsX30 ++ wsX00 ++ wsX10)
def wsX3_rideOf_r1 : List Cond := [Cond.fieldLink RX3 32 "PunchedTicket" "now" "LPunchedTicket$Moment;", Cond.fieldLink RX3 71 "PunchedTicket" "trial" "LPunchedTicket$Trial;", Cond.fieldLink RX3 147 "PunchedTicket$Trial" "rides" "[I", Cond.methodLink RX3 269 yX1_findRides, Cond.instanceMethod yX1_findRides, Cond.selects RX1 yX1_findRides yX1_findRides, Cond.initialized RX1, Cond.code yX1_findRides cX1_findRides 4 none, Cond.fieldLink RX1 15 "PunchedTicket$Moment" "tickets" "I", Cond.fieldLink RX1 31 "PunchedTicket$Moment" "holder" "[I", Cond.fieldLink RX1 28 "PunchedTicket$Moment" "forDay" "[I", Cond.fieldLink RX1 9 "PunchedTicket$Moment" "day" "I", Cond.fieldLink RX1 34 "PunchedTicket$Moment" "line" "LPunchedTicket$Line;", Cond.methodLink RX1 71 yX0_hasPerson, Cond.instanceMethod yX0_hasPerson, Cond.selects RX0 yX0_hasPerson yX0_hasPerson, Cond.initialized RX0, Cond.code yX0_hasPerson cX0_hasPerson 2 (some .boolean), Cond.fieldLink RX0 9 "PunchedTicket$Line" "people" "I", Cond.methodLink RX1 74 yX1_canTake, Cond.instanceMethod yX1_canTake, Cond.selects RX1 yX1_canTake yX1_canTake, Cond.code yX1_canTake cX1_canTake 5 (some .boolean), Cond.fieldLink RX1 18 "PunchedTicket$Moment" "returns" "I"]
def wsX3_rideOf_r2 : List Cond := [Cond.fieldLink RX1 56 "PunchedTicket$Line" "to" "[I", Cond.fieldLink RX1 59 "PunchedTicket$Line" "from" "[I", Cond.fieldLink RX1 21 "PunchedTicket$Moment" "gone" "I", Cond.fieldLink RX1 78 "PunchedTicket$Line" "kind" "[I", Cond.fieldLink RX1 24 "PunchedTicket$Moment" "at" "[I"]
def wsX3_rideOf : List Cond := .code yX3_rideOf cX3_rideOf 2 (some .int) :: ((wsX3_rideOf_r1 ++ wsX3_rideOf_r2) ++ wsX30 ++ wsX20 ++ wsX10 ++ wsX00)
def wsX3_person_r1 : List Cond := [Cond.fieldLink RX3 20 "PunchedTicket" "told" "LPunchedTicket$Line;", Cond.fieldLink RX3 32 "PunchedTicket" "now" "LPunchedTicket$Moment;", Cond.fieldLink RX3 101 "PunchedTicket$Moment" "at" "[I", Cond.fieldLink RX3 104 "PunchedTicket$Line" "liked" "[I", Cond.fieldLink RX3 107 "PunchedTicket$Line" "kind" "[I", Cond.methodLink RX3 97 yX0_hasPerson, Cond.instanceMethod yX0_hasPerson, Cond.selects RX0 yX0_hasPerson yX0_hasPerson, Cond.initialized RX0, Cond.code yX0_hasPerson cX0_hasPerson 2 (some .boolean), Cond.fieldLink RX0 9 "PunchedTicket$Line" "people" "I", Cond.methodLink RX3 110 yX1_heldBy, Cond.instanceMethod yX1_heldBy, Cond.selects RX1 yX1_heldBy yX1_heldBy, Cond.initialized RX1, Cond.code yX1_heldBy cX1_heldBy 4 (some .int), Cond.fieldLink RX1 15 "PunchedTicket$Moment" "tickets" "I", Cond.fieldLink RX1 31 "PunchedTicket$Moment" "holder" "[I", Cond.methodLink RX1 62 yX1_isGone, Cond.instanceMethod yX1_isGone, Cond.selects RX1 yX1_isGone yX1_isGone, Cond.code yX1_isGone cX1_isGone 2 (some .boolean), Cond.fieldLink RX1 21 "PunchedTicket$Moment" "gone" "I", Cond.methodLink RX3 114 yX3_rideOf]
def wsX3_person_r2 : List Cond := [Cond.instanceMethod yX3_rideOf, Cond.selects RX3 yX3_rideOf yX3_rideOf, Cond.initialized RX3, Cond.code yX3_rideOf cX3_rideOf 2 (some .int), Cond.fieldLink RX3 71 "PunchedTicket" "trial" "LPunchedTicket$Trial;", Cond.fieldLink RX3 147 "PunchedTicket$Trial" "rides" "[I", Cond.methodLink RX3 269 yX1_findRides, Cond.instanceMethod yX1_findRides, Cond.selects RX1 yX1_findRides yX1_findRides, Cond.code yX1_findRides cX1_findRides 4 none, Cond.fieldLink RX1 28 "PunchedTicket$Moment" "forDay" "[I", Cond.fieldLink RX1 9 "PunchedTicket$Moment" "day" "I", Cond.fieldLink RX1 34 "PunchedTicket$Moment" "line" "LPunchedTicket$Line;", Cond.methodLink RX1 71 yX0_hasPerson, Cond.methodLink RX1 74 yX1_canTake, Cond.instanceMethod yX1_canTake, Cond.selects RX1 yX1_canTake yX1_canTake, Cond.code yX1_canTake cX1_canTake 5 (some .boolean), Cond.fieldLink RX1 18 "PunchedTicket$Moment" "returns" "I", Cond.fieldLink RX1 56 "PunchedTicket$Line" "to" "[I", Cond.fieldLink RX1 59 "PunchedTicket$Line" "from" "[I", Cond.fieldLink RX1 78 "PunchedTicket$Line" "kind" "[I", Cond.fieldLink RX1 24 "PunchedTicket$Moment" "at" "[I"]
def wsX3_person : List Cond := .code yX3_person cX3_person 3 (some .int) :: ((wsX3_person_r1 ++ wsX3_person_r2) ++ wsX30 ++ wsX10 ++ wsX00 ++ wsX20)
def wsX3_ticket_r1 : List Cond := [Cond.fieldLink RX3 32 "PunchedTicket" "now" "LPunchedTicket$Moment;", Cond.fieldLink RX3 120 "PunchedTicket$Moment" "forDay" "[I", Cond.fieldLink RX3 20 "PunchedTicket" "told" "LPunchedTicket$Line;", Cond.fieldLink RX3 129 "PunchedTicket$Line" "seat" "[I", Cond.fieldLink RX3 132 "PunchedTicket$Moment" "holder" "[I", Cond.methodLink RX3 117 yX1_hasTicket, Cond.instanceMethod yX1_hasTicket, Cond.selects RX1 yX1_hasTicket yX1_hasTicket, Cond.initialized RX1, Cond.code yX1_hasTicket cX1_hasTicket 2 (some .boolean), Cond.fieldLink RX1 15 "PunchedTicket$Moment" "tickets" "I", Cond.methodLink RX3 123 yX1_from, Cond.instanceMethod yX1_from, Cond.selects RX1 yX1_from yX1_from, Cond.code yX1_from cX1_from 2 (some .int), Cond.fieldLink RX1 34 "PunchedTicket$Moment" "line" "LPunchedTicket$Line;", Cond.fieldLink RX1 56 "PunchedTicket$Line" "to" "[I", Cond.fieldLink RX1 59 "PunchedTicket$Line" "from" "[I", Cond.methodLink RX1 52 yX1_isReturn, Cond.instanceMethod yX1_isReturn, Cond.selects RX1 yX1_isReturn yX1_isReturn, Cond.code yX1_isReturn cX1_isReturn 2 (some .boolean), Cond.fieldLink RX1 18 "PunchedTicket$Moment" "returns" "I", Cond.methodLink RX3 126 yX1_to]
def wsX3_ticket_r2 : List Cond := [Cond.instanceMethod yX1_to, Cond.selects RX1 yX1_to yX1_to, Cond.code yX1_to cX1_to 2 (some .int), Cond.methodLink RX3 135 yX1_isReturn, Cond.methodLink RX3 138 yX1_isGone, Cond.instanceMethod yX1_isGone, Cond.selects RX1 yX1_isGone yX1_isGone, Cond.code yX1_isGone cX1_isGone 2 (some .boolean), Cond.fieldLink RX1 21 "PunchedTicket$Moment" "gone" "I"]
def wsX3_ticket : List Cond := .code yX3_ticket cX3_ticket 3 (some .int) :: ((wsX3_ticket_r1 ++ wsX3_ticket_r2) ++ wsX30 ++ wsX10 ++ wsX00)
def wsX3_keepIn_r1 : List Cond := [Cond.classLink RX3 27 RX1, Cond.instantiable RX1 8, Cond.initialized RX1, Cond.fieldLink RX3 20 "PunchedTicket" "told" "LPunchedTicket$Line;", Cond.fieldLink RX3 32 "PunchedTicket" "now" "LPunchedTicket$Moment;", Cond.methodLink RX3 29 yX1_init, Cond.instanceMethod yX1_init, Cond.code yX1_init cX1_init 2 none, Cond.methodLink RX1 3 objectInit, Cond.instanceMethod objectInit, Cond.code objectInit ⟨#[0xb1]⟩ 1 none, Cond.fieldLink RX1 9 "PunchedTicket$Moment" "day" "I", Cond.fieldLink RX1 15 "PunchedTicket$Moment" "tickets" "I", Cond.fieldLink RX1 18 "PunchedTicket$Moment" "returns" "I", Cond.fieldLink RX1 21 "PunchedTicket$Moment" "gone" "I", Cond.arrayClass .int, Cond.fieldLink RX1 24 "PunchedTicket$Moment" "at" "[I", Cond.fieldLink RX1 28 "PunchedTicket$Moment" "forDay" "[I", Cond.fieldLink RX1 31 "PunchedTicket$Moment" "holder" "[I", Cond.fieldLink RX1 34 "PunchedTicket$Moment" "line" "LPunchedTicket$Line;", Cond.methodLink RX3 168 yX1_copy, Cond.instanceMethod yX1_copy, Cond.selects RX1 yX1_copy yX1_copy, Cond.code yX1_copy cX1_copy 2 none]
def wsX3_keepIn_r2 : List Cond := [Cond.methodLink RX1 44 arraycopyName, Cond.native arraycopyName, Cond.static arraycopyName, Cond.initialized "java/lang/System"]
def wsX3_keepIn : List Cond := .code yX3_keepIn cX3_keepIn 4 none :: ((wsX3_keepIn_r1 ++ wsX3_keepIn_r2) ++ wsX10 ++ wsX30)
def wsX3_rememberAct_r1 : List Cond := [Cond.fieldLink RX3 36 "PunchedTicket" "acts" "[LPunchedTicket$Moment;", Cond.fieldLink RX3 40 "PunchedTicket" "firstAct" "I", Cond.fieldLink RX3 43 "PunchedTicket" "actsInRow" "I", Cond.methodLink RX3 262 yX3_keepIn, Cond.instanceMethod yX3_keepIn, Cond.selects RX3 yX3_keepIn yX3_keepIn, Cond.initialized RX3, Cond.code yX3_keepIn cX3_keepIn 4 none, Cond.classLink RX3 27 RX1, Cond.instantiable RX1 8, Cond.initialized RX1, Cond.fieldLink RX3 20 "PunchedTicket" "told" "LPunchedTicket$Line;", Cond.fieldLink RX3 32 "PunchedTicket" "now" "LPunchedTicket$Moment;", Cond.methodLink RX3 29 yX1_init, Cond.instanceMethod yX1_init, Cond.code yX1_init cX1_init 2 none, Cond.methodLink RX1 3 objectInit, Cond.instanceMethod objectInit, Cond.code objectInit ⟨#[0xb1]⟩ 1 none, Cond.fieldLink RX1 9 "PunchedTicket$Moment" "day" "I", Cond.fieldLink RX1 15 "PunchedTicket$Moment" "tickets" "I", Cond.fieldLink RX1 18 "PunchedTicket$Moment" "returns" "I", Cond.fieldLink RX1 21 "PunchedTicket$Moment" "gone" "I", Cond.arrayClass .int]
def wsX3_rememberAct_r2 : List Cond := [Cond.fieldLink RX1 24 "PunchedTicket$Moment" "at" "[I", Cond.fieldLink RX1 28 "PunchedTicket$Moment" "forDay" "[I", Cond.fieldLink RX1 31 "PunchedTicket$Moment" "holder" "[I", Cond.fieldLink RX1 34 "PunchedTicket$Moment" "line" "LPunchedTicket$Line;", Cond.methodLink RX3 168 yX1_copy, Cond.instanceMethod yX1_copy, Cond.selects RX1 yX1_copy yX1_copy, Cond.code yX1_copy cX1_copy 2 none, Cond.methodLink RX1 44 arraycopyName, Cond.native arraycopyName, Cond.static arraycopyName, Cond.initialized "java/lang/System"]
def wsX3_rememberAct : List Cond := .code yX3_rememberAct cX3_rememberAct 1 none :: ((wsX3_rememberAct_r1 ++ wsX3_rememberAct_r2) ++ wsX30 ++ wsX10)
def wsX3_day_r1 : List Cond := [Cond.fieldLink RX3 32 "PunchedTicket" "now" "LPunchedTicket$Moment;", Cond.fieldLink RX3 141 "PunchedTicket$Moment" "day" "I", Cond.fieldLink RX3 71 "PunchedTicket" "trial" "LPunchedTicket$Trial;", Cond.fieldLink RX3 147 "PunchedTicket$Trial" "rides" "[I", Cond.methodLink RX3 144 yX3_rememberAct, Cond.instanceMethod yX3_rememberAct, Cond.selects RX3 yX3_rememberAct yX3_rememberAct, Cond.initialized RX3, Cond.code yX3_rememberAct cX3_rememberAct 1 none, Cond.fieldLink RX3 36 "PunchedTicket" "acts" "[LPunchedTicket$Moment;", Cond.fieldLink RX3 40 "PunchedTicket" "firstAct" "I", Cond.fieldLink RX3 43 "PunchedTicket" "actsInRow" "I", Cond.methodLink RX3 262 yX3_keepIn, Cond.instanceMethod yX3_keepIn, Cond.selects RX3 yX3_keepIn yX3_keepIn, Cond.code yX3_keepIn cX3_keepIn 4 none, Cond.classLink RX3 27 RX1, Cond.instantiable RX1 8, Cond.initialized RX1, Cond.fieldLink RX3 20 "PunchedTicket" "told" "LPunchedTicket$Line;", Cond.methodLink RX3 29 yX1_init, Cond.instanceMethod yX1_init, Cond.code yX1_init cX1_init 2 none, Cond.methodLink RX1 3 objectInit]
def wsX3_day_r2 : List Cond := [Cond.instanceMethod objectInit, Cond.code objectInit ⟨#[0xb1]⟩ 1 none, Cond.fieldLink RX1 9 "PunchedTicket$Moment" "day" "I", Cond.fieldLink RX1 15 "PunchedTicket$Moment" "tickets" "I", Cond.fieldLink RX1 18 "PunchedTicket$Moment" "returns" "I", Cond.fieldLink RX1 21 "PunchedTicket$Moment" "gone" "I", Cond.arrayClass .int, Cond.fieldLink RX1 24 "PunchedTicket$Moment" "at" "[I", Cond.fieldLink RX1 28 "PunchedTicket$Moment" "forDay" "[I", Cond.fieldLink RX1 31 "PunchedTicket$Moment" "holder" "[I", Cond.fieldLink RX1 34 "PunchedTicket$Moment" "line" "LPunchedTicket$Line;", Cond.methodLink RX3 168 yX1_copy, Cond.instanceMethod yX1_copy, Cond.selects RX1 yX1_copy yX1_copy, Cond.code yX1_copy cX1_copy 2 none, Cond.methodLink RX1 44 arraycopyName, Cond.native arraycopyName, Cond.static arraycopyName, Cond.initialized "java/lang/System", Cond.methodLink RX3 150 yX1_passDay, Cond.instanceMethod yX1_passDay, Cond.selects RX1 yX1_passDay yX1_passDay, Cond.code yX1_passDay cX1_passDay 5 (some .int), Cond.fieldLink RX1 65 "PunchedTicket$Line" "people" "I"]
def wsX3_day_r3 : List Cond := [Cond.methodLink RX1 81 yX1_findRides, Cond.instanceMethod yX1_findRides, Cond.selects RX1 yX1_findRides yX1_findRides, Cond.code yX1_findRides cX1_findRides 4 none, Cond.methodLink RX1 71 yX0_hasPerson, Cond.instanceMethod yX0_hasPerson, Cond.selects RX0 yX0_hasPerson yX0_hasPerson, Cond.initialized RX0, Cond.code yX0_hasPerson cX0_hasPerson 2 (some .boolean), Cond.fieldLink RX0 9 "PunchedTicket$Line" "people" "I", Cond.methodLink RX1 74 yX1_canTake, Cond.instanceMethod yX1_canTake, Cond.selects RX1 yX1_canTake yX1_canTake, Cond.code yX1_canTake cX1_canTake 5 (some .boolean), Cond.fieldLink RX1 56 "PunchedTicket$Line" "to" "[I", Cond.fieldLink RX1 59 "PunchedTicket$Line" "from" "[I", Cond.fieldLink RX1 78 "PunchedTicket$Line" "kind" "[I", Cond.methodLink RX1 85 yX1_hasTicket, Cond.instanceMethod yX1_hasTicket, Cond.selects RX1 yX1_hasTicket yX1_hasTicket, Cond.code yX1_hasTicket cX1_hasTicket 2 (some .boolean), Cond.methodLink RX1 88 yX1_to, Cond.instanceMethod yX1_to, Cond.selects RX1 yX1_to yX1_to]
def wsX3_day_r4 : List Cond := [Cond.code yX1_to cX1_to 2 (some .int), Cond.methodLink RX1 52 yX1_isReturn, Cond.instanceMethod yX1_isReturn, Cond.selects RX1 yX1_isReturn yX1_isReturn, Cond.code yX1_isReturn cX1_isReturn 2 (some .boolean), Cond.methodLink RX1 91 yX1_useTicket, Cond.instanceMethod yX1_useTicket, Cond.selects RX1 yX1_useTicket yX1_useTicket, Cond.code yX1_useTicket cX1_useTicket 4 none]
def wsX3_day : List Cond := .code yX3_day cX3_day 1 (some .int) :: ((wsX3_day_r1 ++ (wsX3_day_r2 ++ (wsX3_day_r3 ++ wsX3_day_r4))) ++ wsX30 ++ wsX10 ++ wsX20 ++ wsX00)
def wsX3_give_r1 : List Cond := [Cond.fieldLink RX3 32 "PunchedTicket" "now" "LPunchedTicket$Moment;", Cond.fieldLink RX3 20 "PunchedTicket" "told" "LPunchedTicket$Line;", Cond.fieldLink RX3 132 "PunchedTicket$Moment" "holder" "[I", Cond.methodLink RX3 117 yX1_hasTicket, Cond.instanceMethod yX1_hasTicket, Cond.selects RX1 yX1_hasTicket yX1_hasTicket, Cond.initialized RX1, Cond.code yX1_hasTicket cX1_hasTicket 2 (some .boolean), Cond.fieldLink RX1 15 "PunchedTicket$Moment" "tickets" "I", Cond.methodLink RX3 97 yX0_hasPerson, Cond.instanceMethod yX0_hasPerson, Cond.selects RX0 yX0_hasPerson yX0_hasPerson, Cond.initialized RX0, Cond.code yX0_hasPerson cX0_hasPerson 2 (some .boolean), Cond.fieldLink RX0 9 "PunchedTicket$Line" "people" "I", Cond.methodLink RX3 154 yX1_canBeGiven, Cond.instanceMethod yX1_canBeGiven, Cond.selects RX1 yX1_canBeGiven yX1_canBeGiven, Cond.code yX1_canBeGiven cX1_canBeGiven 3 (some .boolean), Cond.fieldLink RX1 31 "PunchedTicket$Moment" "holder" "[I", Cond.methodLink RX1 62 yX1_isGone, Cond.instanceMethod yX1_isGone, Cond.selects RX1 yX1_isGone yX1_isGone, Cond.code yX1_isGone cX1_isGone 2 (some .boolean)]
def wsX3_give_r2 : List Cond := [Cond.fieldLink RX1 21 "PunchedTicket$Moment" "gone" "I", Cond.methodLink RX3 144 yX3_rememberAct, Cond.instanceMethod yX3_rememberAct, Cond.selects RX3 yX3_rememberAct yX3_rememberAct, Cond.initialized RX3, Cond.code yX3_rememberAct cX3_rememberAct 1 none, Cond.fieldLink RX3 36 "PunchedTicket" "acts" "[LPunchedTicket$Moment;", Cond.fieldLink RX3 40 "PunchedTicket" "firstAct" "I", Cond.fieldLink RX3 43 "PunchedTicket" "actsInRow" "I", Cond.methodLink RX3 262 yX3_keepIn, Cond.instanceMethod yX3_keepIn, Cond.selects RX3 yX3_keepIn yX3_keepIn, Cond.code yX3_keepIn cX3_keepIn 4 none, Cond.classLink RX3 27 RX1, Cond.instantiable RX1 8, Cond.methodLink RX3 29 yX1_init, Cond.instanceMethod yX1_init, Cond.code yX1_init cX1_init 2 none, Cond.methodLink RX1 3 objectInit, Cond.instanceMethod objectInit, Cond.code objectInit ⟨#[0xb1]⟩ 1 none, Cond.fieldLink RX1 9 "PunchedTicket$Moment" "day" "I", Cond.fieldLink RX1 18 "PunchedTicket$Moment" "returns" "I", Cond.arrayClass .int]
def wsX3_give_r3 : List Cond := [Cond.fieldLink RX1 24 "PunchedTicket$Moment" "at" "[I", Cond.fieldLink RX1 28 "PunchedTicket$Moment" "forDay" "[I", Cond.fieldLink RX1 34 "PunchedTicket$Moment" "line" "LPunchedTicket$Line;", Cond.methodLink RX3 168 yX1_copy, Cond.instanceMethod yX1_copy, Cond.selects RX1 yX1_copy yX1_copy, Cond.code yX1_copy cX1_copy 2 none, Cond.methodLink RX1 44 arraycopyName, Cond.native arraycopyName, Cond.static arraycopyName, Cond.initialized "java/lang/System"]
def wsX3_give : List Cond := .code yX3_give cX3_give 4 (some .int) :: ((wsX3_give_r1 ++ (wsX3_give_r2 ++ wsX3_give_r3)) ++ wsX30 ++ wsX10 ++ wsX00)
def wsX3_lose_r1 : List Cond := [Cond.fieldLink RX3 32 "PunchedTicket" "now" "LPunchedTicket$Moment;", Cond.fieldLink RX3 158 "PunchedTicket$Moment" "gone" "I", Cond.fieldLink RX3 132 "PunchedTicket$Moment" "holder" "[I", Cond.methodLink RX3 117 yX1_hasTicket, Cond.instanceMethod yX1_hasTicket, Cond.selects RX1 yX1_hasTicket yX1_hasTicket, Cond.initialized RX1, Cond.code yX1_hasTicket cX1_hasTicket 2 (some .boolean), Cond.fieldLink RX1 15 "PunchedTicket$Moment" "tickets" "I", Cond.methodLink RX3 138 yX1_isGone, Cond.instanceMethod yX1_isGone, Cond.selects RX1 yX1_isGone yX1_isGone, Cond.code yX1_isGone cX1_isGone 2 (some .boolean), Cond.fieldLink RX1 21 "PunchedTicket$Moment" "gone" "I", Cond.methodLink RX3 144 yX3_rememberAct, Cond.instanceMethod yX3_rememberAct, Cond.selects RX3 yX3_rememberAct yX3_rememberAct, Cond.initialized RX3, Cond.code yX3_rememberAct cX3_rememberAct 1 none, Cond.fieldLink RX3 36 "PunchedTicket" "acts" "[LPunchedTicket$Moment;", Cond.fieldLink RX3 40 "PunchedTicket" "firstAct" "I", Cond.fieldLink RX3 43 "PunchedTicket" "actsInRow" "I", Cond.methodLink RX3 262 yX3_keepIn, Cond.instanceMethod yX3_keepIn]
def wsX3_lose_r2 : List Cond := [Cond.selects RX3 yX3_keepIn yX3_keepIn, Cond.code yX3_keepIn cX3_keepIn 4 none, Cond.classLink RX3 27 RX1, Cond.instantiable RX1 8, Cond.fieldLink RX3 20 "PunchedTicket" "told" "LPunchedTicket$Line;", Cond.methodLink RX3 29 yX1_init, Cond.instanceMethod yX1_init, Cond.code yX1_init cX1_init 2 none, Cond.methodLink RX1 3 objectInit, Cond.instanceMethod objectInit, Cond.code objectInit ⟨#[0xb1]⟩ 1 none, Cond.fieldLink RX1 9 "PunchedTicket$Moment" "day" "I", Cond.fieldLink RX1 18 "PunchedTicket$Moment" "returns" "I", Cond.arrayClass .int, Cond.fieldLink RX1 24 "PunchedTicket$Moment" "at" "[I", Cond.fieldLink RX1 28 "PunchedTicket$Moment" "forDay" "[I", Cond.fieldLink RX1 31 "PunchedTicket$Moment" "holder" "[I", Cond.fieldLink RX1 34 "PunchedTicket$Moment" "line" "LPunchedTicket$Line;", Cond.methodLink RX3 168 yX1_copy, Cond.instanceMethod yX1_copy, Cond.selects RX1 yX1_copy yX1_copy, Cond.code yX1_copy cX1_copy 2 none, Cond.methodLink RX1 44 arraycopyName, Cond.native arraycopyName]
def wsX3_lose_r3 : List Cond := [Cond.static arraycopyName, Cond.initialized "java/lang/System"]
def wsX3_lose : List Cond := .code yX3_lose cX3_lose 2 (some .int) :: ((wsX3_lose_r1 ++ (wsX3_lose_r2 ++ wsX3_lose_r3)) ++ wsX30 ++ wsX10)
def wsX3_change_r1 : List Cond := [Cond.fieldLink RX3 32 "PunchedTicket" "now" "LPunchedTicket$Moment;", Cond.fieldLink RX3 132 "PunchedTicket$Moment" "holder" "[I", Cond.methodLink RX3 117 yX1_hasTicket, Cond.instanceMethod yX1_hasTicket, Cond.selects RX1 yX1_hasTicket yX1_hasTicket, Cond.initialized RX1, Cond.code yX1_hasTicket cX1_hasTicket 2 (some .boolean), Cond.fieldLink RX1 15 "PunchedTicket$Moment" "tickets" "I", Cond.methodLink RX3 161 yX1_canBeChanged, Cond.instanceMethod yX1_canBeChanged, Cond.selects RX1 yX1_canBeChanged yX1_canBeChanged, Cond.code yX1_canBeChanged cX1_canBeChanged 3 (some .boolean), Cond.fieldLink RX1 31 "PunchedTicket$Moment" "holder" "[I", Cond.methodLink RX1 62 yX1_isGone, Cond.instanceMethod yX1_isGone, Cond.selects RX1 yX1_isGone yX1_isGone, Cond.code yX1_isGone cX1_isGone 2 (some .boolean), Cond.fieldLink RX1 21 "PunchedTicket$Moment" "gone" "I", Cond.methodLink RX3 144 yX3_rememberAct, Cond.instanceMethod yX3_rememberAct, Cond.selects RX3 yX3_rememberAct yX3_rememberAct, Cond.initialized RX3, Cond.code yX3_rememberAct cX3_rememberAct 1 none, Cond.fieldLink RX3 36 "PunchedTicket" "acts" "[LPunchedTicket$Moment;"]
def wsX3_change_r2 : List Cond := [Cond.fieldLink RX3 40 "PunchedTicket" "firstAct" "I", Cond.fieldLink RX3 43 "PunchedTicket" "actsInRow" "I", Cond.methodLink RX3 262 yX3_keepIn, Cond.instanceMethod yX3_keepIn, Cond.selects RX3 yX3_keepIn yX3_keepIn, Cond.code yX3_keepIn cX3_keepIn 4 none, Cond.classLink RX3 27 RX1, Cond.instantiable RX1 8, Cond.fieldLink RX3 20 "PunchedTicket" "told" "LPunchedTicket$Line;", Cond.methodLink RX3 29 yX1_init, Cond.instanceMethod yX1_init, Cond.code yX1_init cX1_init 2 none, Cond.methodLink RX1 3 objectInit, Cond.instanceMethod objectInit, Cond.code objectInit ⟨#[0xb1]⟩ 1 none, Cond.fieldLink RX1 9 "PunchedTicket$Moment" "day" "I", Cond.fieldLink RX1 18 "PunchedTicket$Moment" "returns" "I", Cond.arrayClass .int, Cond.fieldLink RX1 24 "PunchedTicket$Moment" "at" "[I", Cond.fieldLink RX1 28 "PunchedTicket$Moment" "forDay" "[I", Cond.fieldLink RX1 34 "PunchedTicket$Moment" "line" "LPunchedTicket$Line;", Cond.methodLink RX3 168 yX1_copy, Cond.instanceMethod yX1_copy, Cond.selects RX1 yX1_copy yX1_copy]
def wsX3_change_r3 : List Cond := [Cond.code yX1_copy cX1_copy 2 none, Cond.methodLink RX1 44 arraycopyName, Cond.native arraycopyName, Cond.static arraycopyName, Cond.initialized "java/lang/System", Cond.methodLink RX3 164 yX1_swapHolders, Cond.instanceMethod yX1_swapHolders, Cond.selects RX1 yX1_swapHolders yX1_swapHolders, Cond.code yX1_swapHolders cX1_swapHolders 4 none]
def wsX3_change : List Cond := .code yX3_change cX3_change 3 (some .int) :: ((wsX3_change_r1 ++ (wsX3_change_r2 ++ wsX3_change_r3)) ++ wsX30 ++ wsX10)
def wsX3_undo : List Cond := .code yX3_undo cX3_undo 2 (some .int) :: ([.fieldLink RX3 43 "PunchedTicket" "actsInRow" "I", .fieldLink RX3 36 "PunchedTicket" "acts" "[LPunchedTicket$Moment;", .fieldLink RX3 40 "PunchedTicket" "firstAct" "I", .fieldLink RX3 32 "PunchedTicket" "now" "LPunchedTicket$Moment;", .methodLink RX3 168 yX1_copy, .instanceMethod yX1_copy, .selects RX1 yX1_copy yX1_copy, .initialized RX1, .code yX1_copy cX1_copy 2 none, .fieldLink RX1 9 "PunchedTicket$Moment" "day" "I", .fieldLink RX1 15 "PunchedTicket$Moment" "tickets" "I", .fieldLink RX1 18 "PunchedTicket$Moment" "returns" "I", .fieldLink RX1 21 "PunchedTicket$Moment" "gone" "I", .fieldLink RX1 24 "PunchedTicket$Moment" "at" "[I", .methodLink RX1 44 arraycopyName, .native arraycopyName, .static arraycopyName, .initialized "java/lang/System", .fieldLink RX1 28 "PunchedTicket$Moment" "forDay" "[I", .fieldLink RX1 31 "PunchedTicket$Moment" "holder" "[I"] ++ wsX30 ++ wsX10)
def wsX3_where_r1 : List Cond := [Cond.fieldLink RX3 20 "PunchedTicket" "told" "LPunchedTicket$Line;", Cond.fieldLink RX3 32 "PunchedTicket" "now" "LPunchedTicket$Moment;", Cond.fieldLink RX3 141 "PunchedTicket$Moment" "day" "I", Cond.fieldLink RX3 71 "PunchedTicket" "trial" "LPunchedTicket$Trial;", Cond.fieldLink RX3 178 "PunchedTicket$Trial" "moment" "LPunchedTicket$Moment;", Cond.fieldLink RX3 101 "PunchedTicket$Moment" "at" "[I", Cond.methodLink RX3 97 yX0_hasPerson, Cond.instanceMethod yX0_hasPerson, Cond.selects RX0 yX0_hasPerson yX0_hasPerson, Cond.initialized RX0, Cond.code yX0_hasPerson cX0_hasPerson 2 (some .boolean), Cond.fieldLink RX0 9 "PunchedTicket$Line" "people" "I", Cond.methodLink RX3 171 yX2_start, Cond.instanceMethod yX2_start, Cond.selects RX2 yX2_start yX2_start, Cond.initialized RX2, Cond.code yX2_start cX2_start 2 none, Cond.fieldLink RX2 24 "PunchedTicket$Trial" "moment" "LPunchedTicket$Moment;", Cond.methodLink RX2 28 yX1_copy, Cond.instanceMethod yX1_copy, Cond.selects RX1 yX1_copy yX1_copy, Cond.initialized RX1, Cond.code yX1_copy cX1_copy 2 none, Cond.fieldLink RX1 9 "PunchedTicket$Moment" "day" "I"]
def wsX3_where_r2 : List Cond := [Cond.fieldLink RX1 15 "PunchedTicket$Moment" "tickets" "I", Cond.fieldLink RX1 18 "PunchedTicket$Moment" "returns" "I", Cond.fieldLink RX1 21 "PunchedTicket$Moment" "gone" "I", Cond.fieldLink RX1 24 "PunchedTicket$Moment" "at" "[I", Cond.methodLink RX1 44 arraycopyName, Cond.native arraycopyName, Cond.static arraycopyName, Cond.initialized "java/lang/System", Cond.fieldLink RX1 28 "PunchedTicket$Moment" "forDay" "[I", Cond.fieldLink RX1 31 "PunchedTicket$Moment" "holder" "[I", Cond.methodLink RX3 174 yX2_passDaysTo, Cond.instanceMethod yX2_passDaysTo, Cond.selects RX2 yX2_passDaysTo yX2_passDaysTo, Cond.code yX2_passDaysTo cX2_passDaysTo 3 none, Cond.fieldLink RX2 51 "PunchedTicket$Moment" "day" "I", Cond.fieldLink RX2 9 "PunchedTicket$Trial" "rides" "[I", Cond.methodLink RX2 54 yX1_passDay, Cond.instanceMethod yX1_passDay, Cond.selects RX1 yX1_passDay yX1_passDay, Cond.code yX1_passDay cX1_passDay 5 (some .int), Cond.fieldLink RX1 34 "PunchedTicket$Moment" "line" "LPunchedTicket$Line;", Cond.fieldLink RX1 65 "PunchedTicket$Line" "people" "I", Cond.methodLink RX1 81 yX1_findRides, Cond.instanceMethod yX1_findRides]
def wsX3_where_r3 : List Cond := [Cond.selects RX1 yX1_findRides yX1_findRides, Cond.code yX1_findRides cX1_findRides 4 none, Cond.methodLink RX1 71 yX0_hasPerson, Cond.methodLink RX1 74 yX1_canTake, Cond.instanceMethod yX1_canTake, Cond.selects RX1 yX1_canTake yX1_canTake, Cond.code yX1_canTake cX1_canTake 5 (some .boolean), Cond.fieldLink RX1 56 "PunchedTicket$Line" "to" "[I", Cond.fieldLink RX1 59 "PunchedTicket$Line" "from" "[I", Cond.fieldLink RX1 78 "PunchedTicket$Line" "kind" "[I", Cond.methodLink RX1 85 yX1_hasTicket, Cond.instanceMethod yX1_hasTicket, Cond.selects RX1 yX1_hasTicket yX1_hasTicket, Cond.code yX1_hasTicket cX1_hasTicket 2 (some .boolean), Cond.methodLink RX1 88 yX1_to, Cond.instanceMethod yX1_to, Cond.selects RX1 yX1_to yX1_to, Cond.code yX1_to cX1_to 2 (some .int), Cond.methodLink RX1 52 yX1_isReturn, Cond.instanceMethod yX1_isReturn, Cond.selects RX1 yX1_isReturn yX1_isReturn, Cond.code yX1_isReturn cX1_isReturn 2 (some .boolean), Cond.methodLink RX1 91 yX1_useTicket, Cond.instanceMethod yX1_useTicket]
def wsX3_where_r4 : List Cond := [Cond.selects RX1 yX1_useTicket yX1_useTicket, Cond.code yX1_useTicket cX1_useTicket 4 none]
def wsX3_where : List Cond := .code yX3_where cX3_where 3 (some .int) :: ((wsX3_where_r1 ++ (wsX3_where_r2 ++ (wsX3_where_r3 ++ wsX3_where_r4))) ++ wsX30 ++ wsX10 ++ wsX20 ++ wsX00)
def wsX3_pairRefusal : List Cond := .code yX3_pairRefusal cX3_pairRefusal 3 (some .int) :: ([.fieldLink RX3 20 "PunchedTicket" "told" "LPunchedTicket$Line;", .methodLink RX3 97 yX0_hasPerson, .instanceMethod yX0_hasPerson, .selects RX0 yX0_hasPerson yX0_hasPerson, .initialized RX0, .code yX0_hasPerson cX0_hasPerson 2 (some .boolean), .fieldLink RX0 9 "PunchedTicket$Line" "people" "I"] ++ wsX30 ++ wsX00)
def wsX3_meet_r1 : List Cond := [Cond.fieldLink RX3 71 "PunchedTicket" "trial" "LPunchedTicket$Trial;", Cond.fieldLink RX3 32 "PunchedTicket" "now" "LPunchedTicket$Moment;", Cond.methodLink RX3 181 yX3_pairRefusal, Cond.instanceMethod yX3_pairRefusal, Cond.selects RX3 yX3_pairRefusal yX3_pairRefusal, Cond.initialized RX3, Cond.code yX3_pairRefusal cX3_pairRefusal 3 (some .int), Cond.fieldLink RX3 20 "PunchedTicket" "told" "LPunchedTicket$Line;", Cond.methodLink RX3 97 yX0_hasPerson, Cond.instanceMethod yX0_hasPerson, Cond.selects RX0 yX0_hasPerson yX0_hasPerson, Cond.initialized RX0, Cond.code yX0_hasPerson cX0_hasPerson 2 (some .boolean), Cond.fieldLink RX0 9 "PunchedTicket$Line" "people" "I", Cond.methodLink RX3 171 yX2_start, Cond.instanceMethod yX2_start, Cond.selects RX2 yX2_start yX2_start, Cond.initialized RX2, Cond.code yX2_start cX2_start 2 none, Cond.fieldLink RX2 24 "PunchedTicket$Trial" "moment" "LPunchedTicket$Moment;", Cond.methodLink RX2 28 yX1_copy, Cond.instanceMethod yX1_copy, Cond.selects RX1 yX1_copy yX1_copy, Cond.initialized RX1]
def wsX3_meet_r2 : List Cond := [Cond.code yX1_copy cX1_copy 2 none, Cond.fieldLink RX1 9 "PunchedTicket$Moment" "day" "I", Cond.fieldLink RX1 15 "PunchedTicket$Moment" "tickets" "I", Cond.fieldLink RX1 18 "PunchedTicket$Moment" "returns" "I", Cond.fieldLink RX1 21 "PunchedTicket$Moment" "gone" "I", Cond.fieldLink RX1 24 "PunchedTicket$Moment" "at" "[I", Cond.methodLink RX1 44 arraycopyName, Cond.native arraycopyName, Cond.static arraycopyName, Cond.initialized "java/lang/System", Cond.fieldLink RX1 28 "PunchedTicket$Moment" "forDay" "[I", Cond.fieldLink RX1 31 "PunchedTicket$Moment" "holder" "[I", Cond.methodLink RX3 185 yX2_firstMeeting, Cond.instanceMethod yX2_firstMeeting, Cond.selects RX2 yX2_firstMeeting yX2_firstMeeting, Cond.code yX2_firstMeeting cX2_firstMeeting 4 (some .int), Cond.fieldLink RX2 51 "PunchedTicket$Moment" "day" "I", Cond.fieldLink RX2 9 "PunchedTicket$Trial" "rides" "[I", Cond.methodLink RX2 54 yX1_passDay, Cond.instanceMethod yX1_passDay, Cond.selects RX1 yX1_passDay yX1_passDay, Cond.code yX1_passDay cX1_passDay 5 (some .int), Cond.fieldLink RX1 34 "PunchedTicket$Moment" "line" "LPunchedTicket$Line;", Cond.fieldLink RX1 65 "PunchedTicket$Line" "people" "I"]
def wsX3_meet_r3 : List Cond := [Cond.methodLink RX1 81 yX1_findRides, Cond.instanceMethod yX1_findRides, Cond.selects RX1 yX1_findRides yX1_findRides, Cond.code yX1_findRides cX1_findRides 4 none, Cond.methodLink RX1 71 yX0_hasPerson, Cond.methodLink RX1 74 yX1_canTake, Cond.instanceMethod yX1_canTake, Cond.selects RX1 yX1_canTake yX1_canTake, Cond.code yX1_canTake cX1_canTake 5 (some .boolean), Cond.fieldLink RX1 56 "PunchedTicket$Line" "to" "[I", Cond.fieldLink RX1 59 "PunchedTicket$Line" "from" "[I", Cond.fieldLink RX1 78 "PunchedTicket$Line" "kind" "[I", Cond.methodLink RX1 85 yX1_hasTicket, Cond.instanceMethod yX1_hasTicket, Cond.selects RX1 yX1_hasTicket yX1_hasTicket, Cond.code yX1_hasTicket cX1_hasTicket 2 (some .boolean), Cond.methodLink RX1 88 yX1_to, Cond.instanceMethod yX1_to, Cond.selects RX1 yX1_to yX1_to, Cond.code yX1_to cX1_to 2 (some .int), Cond.methodLink RX1 52 yX1_isReturn, Cond.instanceMethod yX1_isReturn, Cond.selects RX1 yX1_isReturn yX1_isReturn, Cond.code yX1_isReturn cX1_isReturn 2 (some .boolean)]
def wsX3_meet_r4 : List Cond := [Cond.methodLink RX1 91 yX1_useTicket, Cond.instanceMethod yX1_useTicket, Cond.selects RX1 yX1_useTicket yX1_useTicket, Cond.code yX1_useTicket cX1_useTicket 4 none, Cond.methodLink RX2 72 yX2_wentTogether, Cond.instanceMethod yX2_wentTogether, Cond.selects RX2 yX2_wentTogether yX2_wentTogether, Cond.code yX2_wentTogether cX2_wentTogether 5 (some .boolean), Cond.methodLink RX2 86 Lib.Math.max.name, Cond.static Lib.Math.max.name, Cond.initialized "java/lang/Math", Cond.code Lib.Math.max.name Lib.Math.max.code 2 (some .int), Cond.methodLink RX2 95 Lib.Math.min.name, Cond.static Lib.Math.min.name, Cond.code Lib.Math.min.name Lib.Math.min.code 2 (some .int), Cond.methodLink RX2 79 yX1_hasTicket, Cond.methodLink RX2 83 yX2_lowEnd, Cond.instanceMethod yX2_lowEnd, Cond.selects RX2 yX2_lowEnd yX2_lowEnd, Cond.code yX2_lowEnd cX2_lowEnd 2 (some .int), Cond.fieldLink RX2 15 "PunchedTicket$Trial" "line" "LPunchedTicket$Line;", Cond.fieldLink RX2 38 "PunchedTicket$Line" "from" "[I", Cond.fieldLink RX2 41 "PunchedTicket$Line" "to" "[I", Cond.methodLink RX2 92 yX2_highEnd]
def wsX3_meet_r5 : List Cond := [Cond.instanceMethod yX2_highEnd, Cond.selects RX2 yX2_highEnd yX2_highEnd, Cond.code yX2_highEnd cX2_highEnd 2 (some .int)]
def wsX3_meet : List Cond := .code yX3_meet cX3_meet 4 (some .int) :: ((wsX3_meet_r1 ++ (wsX3_meet_r2 ++ (wsX3_meet_r3 ++ (wsX3_meet_r4 ++ wsX3_meet_r5)))) ++ wsX30 ++ wsX00 ++ wsX20 ++ wsX10)
def wsX3_twoSeats_r1 : List Cond := [Cond.fieldLink RX3 71 "PunchedTicket" "trial" "LPunchedTicket$Trial;", Cond.fieldLink RX3 32 "PunchedTicket" "now" "LPunchedTicket$Moment;", Cond.methodLink RX3 171 yX2_start, Cond.instanceMethod yX2_start, Cond.selects RX2 yX2_start yX2_start, Cond.initialized RX2, Cond.code yX2_start cX2_start 2 none, Cond.fieldLink RX2 24 "PunchedTicket$Trial" "moment" "LPunchedTicket$Moment;", Cond.methodLink RX2 28 yX1_copy, Cond.instanceMethod yX1_copy, Cond.selects RX1 yX1_copy yX1_copy, Cond.initialized RX1, Cond.code yX1_copy cX1_copy 2 none, Cond.fieldLink RX1 9 "PunchedTicket$Moment" "day" "I", Cond.fieldLink RX1 15 "PunchedTicket$Moment" "tickets" "I", Cond.fieldLink RX1 18 "PunchedTicket$Moment" "returns" "I", Cond.fieldLink RX1 21 "PunchedTicket$Moment" "gone" "I", Cond.fieldLink RX1 24 "PunchedTicket$Moment" "at" "[I", Cond.methodLink RX1 44 arraycopyName, Cond.native arraycopyName, Cond.static arraycopyName, Cond.initialized "java/lang/System", Cond.fieldLink RX1 28 "PunchedTicket$Moment" "forDay" "[I", Cond.fieldLink RX1 31 "PunchedTicket$Moment" "holder" "[I"]
def wsX3_twoSeats_r2 : List Cond := [Cond.methodLink RX3 188 yX2_firstDouble, Cond.instanceMethod yX2_firstDouble, Cond.selects RX2 yX2_firstDouble yX2_firstDouble, Cond.code yX2_firstDouble cX2_firstDouble 2 (some .int), Cond.fieldLink RX2 51 "PunchedTicket$Moment" "day" "I", Cond.fieldLink RX2 9 "PunchedTicket$Trial" "rides" "[I", Cond.methodLink RX2 54 yX1_passDay, Cond.instanceMethod yX1_passDay, Cond.selects RX1 yX1_passDay yX1_passDay, Cond.code yX1_passDay cX1_passDay 5 (some .int), Cond.fieldLink RX1 34 "PunchedTicket$Moment" "line" "LPunchedTicket$Line;", Cond.fieldLink RX1 65 "PunchedTicket$Line" "people" "I", Cond.methodLink RX1 81 yX1_findRides, Cond.instanceMethod yX1_findRides, Cond.selects RX1 yX1_findRides yX1_findRides, Cond.code yX1_findRides cX1_findRides 4 none, Cond.methodLink RX1 71 yX0_hasPerson, Cond.instanceMethod yX0_hasPerson, Cond.selects RX0 yX0_hasPerson yX0_hasPerson, Cond.initialized RX0, Cond.code yX0_hasPerson cX0_hasPerson 2 (some .boolean), Cond.fieldLink RX0 9 "PunchedTicket$Line" "people" "I", Cond.methodLink RX1 74 yX1_canTake, Cond.instanceMethod yX1_canTake]
def wsX3_twoSeats_r3 : List Cond := [Cond.selects RX1 yX1_canTake yX1_canTake, Cond.code yX1_canTake cX1_canTake 5 (some .boolean), Cond.fieldLink RX1 56 "PunchedTicket$Line" "to" "[I", Cond.fieldLink RX1 59 "PunchedTicket$Line" "from" "[I", Cond.fieldLink RX1 78 "PunchedTicket$Line" "kind" "[I", Cond.methodLink RX1 85 yX1_hasTicket, Cond.instanceMethod yX1_hasTicket, Cond.selects RX1 yX1_hasTicket yX1_hasTicket, Cond.code yX1_hasTicket cX1_hasTicket 2 (some .boolean), Cond.methodLink RX1 88 yX1_to, Cond.instanceMethod yX1_to, Cond.selects RX1 yX1_to yX1_to, Cond.code yX1_to cX1_to 2 (some .int), Cond.methodLink RX1 52 yX1_isReturn, Cond.instanceMethod yX1_isReturn, Cond.selects RX1 yX1_isReturn yX1_isReturn, Cond.code yX1_isReturn cX1_isReturn 2 (some .boolean), Cond.methodLink RX1 91 yX1_useTicket, Cond.instanceMethod yX1_useTicket, Cond.selects RX1 yX1_useTicket yX1_useTicket, Cond.code yX1_useTicket cX1_useTicket 4 none, Cond.methodLink RX2 76 yX2_barredSeats, Cond.instanceMethod yX2_barredSeats, Cond.selects RX2 yX2_barredSeats yX2_barredSeats]
def wsX3_twoSeats_r4 : List Cond := [Cond.code yX2_barredSeats cX2_barredSeats 5 (some .int), Cond.fieldLink RX2 15 "PunchedTicket$Trial" "line" "LPunchedTicket$Line;", Cond.fieldLink RX2 98 "PunchedTicket$Line" "people" "I", Cond.methodLink RX2 72 yX2_wentTogether, Cond.instanceMethod yX2_wentTogether, Cond.selects RX2 yX2_wentTogether yX2_wentTogether, Cond.code yX2_wentTogether cX2_wentTogether 5 (some .boolean), Cond.methodLink RX2 86 Lib.Math.max.name, Cond.static Lib.Math.max.name, Cond.initialized "java/lang/Math", Cond.code Lib.Math.max.name Lib.Math.max.code 2 (some .int), Cond.methodLink RX2 95 Lib.Math.min.name, Cond.static Lib.Math.min.name, Cond.code Lib.Math.min.name Lib.Math.min.code 2 (some .int), Cond.methodLink RX2 79 yX1_hasTicket, Cond.methodLink RX2 83 yX2_lowEnd, Cond.instanceMethod yX2_lowEnd, Cond.selects RX2 yX2_lowEnd yX2_lowEnd, Cond.code yX2_lowEnd cX2_lowEnd 2 (some .int), Cond.fieldLink RX2 38 "PunchedTicket$Line" "from" "[I", Cond.fieldLink RX2 41 "PunchedTicket$Line" "to" "[I", Cond.methodLink RX2 92 yX2_highEnd, Cond.instanceMethod yX2_highEnd, Cond.selects RX2 yX2_highEnd yX2_highEnd]
def wsX3_twoSeats_r5 : List Cond := [Cond.code yX2_highEnd cX2_highEnd 2 (some .int), Cond.methodLink RX2 101 yX2_barredByPair, Cond.instanceMethod yX2_barredByPair, Cond.selects RX2 yX2_barredByPair yX2_barredByPair, Cond.code yX2_barredByPair cX2_barredByPair 4 (some .int), Cond.fieldLink RX2 105 "PunchedTicket$Line" "seat" "[I"]
def wsX3_twoSeats : List Cond := .code yX3_twoSeats cX3_twoSeats 1 (some .int) :: ((wsX3_twoSeats_r1 ++ (wsX3_twoSeats_r2 ++ (wsX3_twoSeats_r3 ++ (wsX3_twoSeats_r4 ++ wsX3_twoSeats_r5)))) ++ wsX30 ++ wsX20 ++ wsX10 ++ wsX00)
def wsX3_firstGift_r1 : List Cond := [Cond.fieldLink RX3 32 "PunchedTicket" "now" "LPunchedTicket$Moment;", Cond.fieldLink RX3 20 "PunchedTicket" "told" "LPunchedTicket$Line;", Cond.fieldLink RX3 94 "PunchedTicket$Line" "tickets" "I", Cond.fieldLink RX3 91 "PunchedTicket$Line" "people" "I", Cond.fieldLink RX3 71 "PunchedTicket" "trial" "LPunchedTicket$Trial;", Cond.fieldLink RX3 178 "PunchedTicket$Trial" "moment" "LPunchedTicket$Moment;", Cond.fieldLink RX3 132 "PunchedTicket$Moment" "holder" "[I", Cond.methodLink RX3 117 yX1_hasTicket, Cond.instanceMethod yX1_hasTicket, Cond.selects RX1 yX1_hasTicket yX1_hasTicket, Cond.initialized RX1, Cond.code yX1_hasTicket cX1_hasTicket 2 (some .boolean), Cond.fieldLink RX1 15 "PunchedTicket$Moment" "tickets" "I", Cond.methodLink RX3 154 yX1_canBeGiven, Cond.instanceMethod yX1_canBeGiven, Cond.selects RX1 yX1_canBeGiven yX1_canBeGiven, Cond.code yX1_canBeGiven cX1_canBeGiven 3 (some .boolean), Cond.fieldLink RX1 31 "PunchedTicket$Moment" "holder" "[I", Cond.methodLink RX1 62 yX1_isGone, Cond.instanceMethod yX1_isGone, Cond.selects RX1 yX1_isGone yX1_isGone, Cond.code yX1_isGone cX1_isGone 2 (some .boolean), Cond.fieldLink RX1 21 "PunchedTicket$Moment" "gone" "I", Cond.methodLink RX3 171 yX2_start]
def wsX3_firstGift_r2 : List Cond := [Cond.instanceMethod yX2_start, Cond.selects RX2 yX2_start yX2_start, Cond.initialized RX2, Cond.code yX2_start cX2_start 2 none, Cond.fieldLink RX2 24 "PunchedTicket$Trial" "moment" "LPunchedTicket$Moment;", Cond.methodLink RX2 28 yX1_copy, Cond.instanceMethod yX1_copy, Cond.selects RX1 yX1_copy yX1_copy, Cond.code yX1_copy cX1_copy 2 none, Cond.fieldLink RX1 9 "PunchedTicket$Moment" "day" "I", Cond.fieldLink RX1 18 "PunchedTicket$Moment" "returns" "I", Cond.fieldLink RX1 24 "PunchedTicket$Moment" "at" "[I", Cond.methodLink RX1 44 arraycopyName, Cond.native arraycopyName, Cond.static arraycopyName, Cond.initialized "java/lang/System", Cond.fieldLink RX1 28 "PunchedTicket$Moment" "forDay" "[I", Cond.methodLink RX3 185 yX2_firstMeeting, Cond.instanceMethod yX2_firstMeeting, Cond.selects RX2 yX2_firstMeeting yX2_firstMeeting, Cond.code yX2_firstMeeting cX2_firstMeeting 4 (some .int), Cond.fieldLink RX2 51 "PunchedTicket$Moment" "day" "I", Cond.fieldLink RX2 9 "PunchedTicket$Trial" "rides" "[I", Cond.methodLink RX2 54 yX1_passDay]
def wsX3_firstGift_r3 : List Cond := [Cond.instanceMethod yX1_passDay, Cond.selects RX1 yX1_passDay yX1_passDay, Cond.code yX1_passDay cX1_passDay 5 (some .int), Cond.fieldLink RX1 34 "PunchedTicket$Moment" "line" "LPunchedTicket$Line;", Cond.fieldLink RX1 65 "PunchedTicket$Line" "people" "I", Cond.methodLink RX1 81 yX1_findRides, Cond.instanceMethod yX1_findRides, Cond.selects RX1 yX1_findRides yX1_findRides, Cond.code yX1_findRides cX1_findRides 4 none, Cond.methodLink RX1 71 yX0_hasPerson, Cond.instanceMethod yX0_hasPerson, Cond.selects RX0 yX0_hasPerson yX0_hasPerson, Cond.initialized RX0, Cond.code yX0_hasPerson cX0_hasPerson 2 (some .boolean), Cond.fieldLink RX0 9 "PunchedTicket$Line" "people" "I", Cond.methodLink RX1 74 yX1_canTake, Cond.instanceMethod yX1_canTake, Cond.selects RX1 yX1_canTake yX1_canTake, Cond.code yX1_canTake cX1_canTake 5 (some .boolean), Cond.fieldLink RX1 56 "PunchedTicket$Line" "to" "[I", Cond.fieldLink RX1 59 "PunchedTicket$Line" "from" "[I", Cond.fieldLink RX1 78 "PunchedTicket$Line" "kind" "[I", Cond.methodLink RX1 85 yX1_hasTicket, Cond.methodLink RX1 88 yX1_to]
def wsX3_firstGift_r4 : List Cond := [Cond.instanceMethod yX1_to, Cond.selects RX1 yX1_to yX1_to, Cond.code yX1_to cX1_to 2 (some .int), Cond.methodLink RX1 52 yX1_isReturn, Cond.instanceMethod yX1_isReturn, Cond.selects RX1 yX1_isReturn yX1_isReturn, Cond.code yX1_isReturn cX1_isReturn 2 (some .boolean), Cond.methodLink RX1 91 yX1_useTicket, Cond.instanceMethod yX1_useTicket, Cond.selects RX1 yX1_useTicket yX1_useTicket, Cond.code yX1_useTicket cX1_useTicket 4 none, Cond.methodLink RX2 72 yX2_wentTogether, Cond.instanceMethod yX2_wentTogether, Cond.selects RX2 yX2_wentTogether yX2_wentTogether, Cond.code yX2_wentTogether cX2_wentTogether 5 (some .boolean), Cond.methodLink RX2 86 Lib.Math.max.name, Cond.static Lib.Math.max.name, Cond.initialized "java/lang/Math", Cond.code Lib.Math.max.name Lib.Math.max.code 2 (some .int), Cond.methodLink RX2 95 Lib.Math.min.name, Cond.static Lib.Math.min.name, Cond.code Lib.Math.min.name Lib.Math.min.code 2 (some .int), Cond.methodLink RX2 79 yX1_hasTicket, Cond.methodLink RX2 83 yX2_lowEnd]
def wsX3_firstGift_r5 : List Cond := [Cond.instanceMethod yX2_lowEnd, Cond.selects RX2 yX2_lowEnd yX2_lowEnd, Cond.code yX2_lowEnd cX2_lowEnd 2 (some .int), Cond.fieldLink RX2 15 "PunchedTicket$Trial" "line" "LPunchedTicket$Line;", Cond.fieldLink RX2 38 "PunchedTicket$Line" "from" "[I", Cond.fieldLink RX2 41 "PunchedTicket$Line" "to" "[I", Cond.methodLink RX2 92 yX2_highEnd, Cond.instanceMethod yX2_highEnd, Cond.selects RX2 yX2_highEnd yX2_highEnd, Cond.code yX2_highEnd cX2_highEnd 2 (some .int)]
def wsX3_firstGift : List Cond := .code yX3_firstGift cX3_firstGift 9 (some .int) :: ((wsX3_firstGift_r1 ++ (wsX3_firstGift_r2 ++ (wsX3_firstGift_r3 ++ (wsX3_firstGift_r4 ++ wsX3_firstGift_r5)))) ++ wsX30 ++ wsX00 ++ wsX20 ++ wsX10)
def wsX3_firstTwoGifts_r1 : List Cond := [Cond.fieldLink RX3 20 "PunchedTicket" "told" "LPunchedTicket$Line;", Cond.fieldLink RX3 94 "PunchedTicket$Line" "tickets" "I", Cond.fieldLink RX3 91 "PunchedTicket$Line" "people" "I", Cond.fieldLink RX3 32 "PunchedTicket" "now" "LPunchedTicket$Moment;", Cond.methodLink RX3 154 yX1_canBeGiven, Cond.instanceMethod yX1_canBeGiven, Cond.selects RX1 yX1_canBeGiven yX1_canBeGiven, Cond.initialized RX1, Cond.code yX1_canBeGiven cX1_canBeGiven 3 (some .boolean), Cond.fieldLink RX1 31 "PunchedTicket$Moment" "holder" "[I", Cond.methodLink RX1 62 yX1_isGone, Cond.instanceMethod yX1_isGone, Cond.selects RX1 yX1_isGone yX1_isGone, Cond.code yX1_isGone cX1_isGone 2 (some .boolean), Cond.fieldLink RX1 21 "PunchedTicket$Moment" "gone" "I", Cond.methodLink RX3 192 yX3_firstGift, Cond.instanceMethod yX3_firstGift, Cond.selects RX3 yX3_firstGift yX3_firstGift, Cond.initialized RX3, Cond.code yX3_firstGift cX3_firstGift 9 (some .int), Cond.fieldLink RX3 71 "PunchedTicket" "trial" "LPunchedTicket$Trial;", Cond.fieldLink RX3 178 "PunchedTicket$Trial" "moment" "LPunchedTicket$Moment;", Cond.fieldLink RX3 132 "PunchedTicket$Moment" "holder" "[I", Cond.methodLink RX3 117 yX1_hasTicket]
def wsX3_firstTwoGifts_r2 : List Cond := [Cond.instanceMethod yX1_hasTicket, Cond.selects RX1 yX1_hasTicket yX1_hasTicket, Cond.code yX1_hasTicket cX1_hasTicket 2 (some .boolean), Cond.fieldLink RX1 15 "PunchedTicket$Moment" "tickets" "I", Cond.methodLink RX3 171 yX2_start, Cond.instanceMethod yX2_start, Cond.selects RX2 yX2_start yX2_start, Cond.initialized RX2, Cond.code yX2_start cX2_start 2 none, Cond.fieldLink RX2 24 "PunchedTicket$Trial" "moment" "LPunchedTicket$Moment;", Cond.methodLink RX2 28 yX1_copy, Cond.instanceMethod yX1_copy, Cond.selects RX1 yX1_copy yX1_copy, Cond.code yX1_copy cX1_copy 2 none, Cond.fieldLink RX1 9 "PunchedTicket$Moment" "day" "I", Cond.fieldLink RX1 18 "PunchedTicket$Moment" "returns" "I", Cond.fieldLink RX1 24 "PunchedTicket$Moment" "at" "[I", Cond.methodLink RX1 44 arraycopyName, Cond.native arraycopyName, Cond.static arraycopyName, Cond.initialized "java/lang/System", Cond.fieldLink RX1 28 "PunchedTicket$Moment" "forDay" "[I", Cond.methodLink RX3 185 yX2_firstMeeting, Cond.instanceMethod yX2_firstMeeting]
def wsX3_firstTwoGifts_r3 : List Cond := [Cond.selects RX2 yX2_firstMeeting yX2_firstMeeting, Cond.code yX2_firstMeeting cX2_firstMeeting 4 (some .int), Cond.fieldLink RX2 51 "PunchedTicket$Moment" "day" "I", Cond.fieldLink RX2 9 "PunchedTicket$Trial" "rides" "[I", Cond.methodLink RX2 54 yX1_passDay, Cond.instanceMethod yX1_passDay, Cond.selects RX1 yX1_passDay yX1_passDay, Cond.code yX1_passDay cX1_passDay 5 (some .int), Cond.fieldLink RX1 34 "PunchedTicket$Moment" "line" "LPunchedTicket$Line;", Cond.fieldLink RX1 65 "PunchedTicket$Line" "people" "I", Cond.methodLink RX1 81 yX1_findRides, Cond.instanceMethod yX1_findRides, Cond.selects RX1 yX1_findRides yX1_findRides, Cond.code yX1_findRides cX1_findRides 4 none, Cond.methodLink RX1 71 yX0_hasPerson, Cond.instanceMethod yX0_hasPerson, Cond.selects RX0 yX0_hasPerson yX0_hasPerson, Cond.initialized RX0, Cond.code yX0_hasPerson cX0_hasPerson 2 (some .boolean), Cond.fieldLink RX0 9 "PunchedTicket$Line" "people" "I", Cond.methodLink RX1 74 yX1_canTake, Cond.instanceMethod yX1_canTake, Cond.selects RX1 yX1_canTake yX1_canTake, Cond.code yX1_canTake cX1_canTake 5 (some .boolean)]
def wsX3_firstTwoGifts_r4 : List Cond := [Cond.fieldLink RX1 56 "PunchedTicket$Line" "to" "[I", Cond.fieldLink RX1 59 "PunchedTicket$Line" "from" "[I", Cond.fieldLink RX1 78 "PunchedTicket$Line" "kind" "[I", Cond.methodLink RX1 85 yX1_hasTicket, Cond.methodLink RX1 88 yX1_to, Cond.instanceMethod yX1_to, Cond.selects RX1 yX1_to yX1_to, Cond.code yX1_to cX1_to 2 (some .int), Cond.methodLink RX1 52 yX1_isReturn, Cond.instanceMethod yX1_isReturn, Cond.selects RX1 yX1_isReturn yX1_isReturn, Cond.code yX1_isReturn cX1_isReturn 2 (some .boolean), Cond.methodLink RX1 91 yX1_useTicket, Cond.instanceMethod yX1_useTicket, Cond.selects RX1 yX1_useTicket yX1_useTicket, Cond.code yX1_useTicket cX1_useTicket 4 none, Cond.methodLink RX2 72 yX2_wentTogether, Cond.instanceMethod yX2_wentTogether, Cond.selects RX2 yX2_wentTogether yX2_wentTogether, Cond.code yX2_wentTogether cX2_wentTogether 5 (some .boolean), Cond.methodLink RX2 86 Lib.Math.max.name, Cond.static Lib.Math.max.name, Cond.initialized "java/lang/Math", Cond.code Lib.Math.max.name Lib.Math.max.code 2 (some .int)]
def wsX3_firstTwoGifts_r5 : List Cond := [Cond.methodLink RX2 95 Lib.Math.min.name, Cond.static Lib.Math.min.name, Cond.code Lib.Math.min.name Lib.Math.min.code 2 (some .int), Cond.methodLink RX2 79 yX1_hasTicket, Cond.methodLink RX2 83 yX2_lowEnd, Cond.instanceMethod yX2_lowEnd, Cond.selects RX2 yX2_lowEnd yX2_lowEnd, Cond.code yX2_lowEnd cX2_lowEnd 2 (some .int), Cond.fieldLink RX2 15 "PunchedTicket$Trial" "line" "LPunchedTicket$Line;", Cond.fieldLink RX2 38 "PunchedTicket$Line" "from" "[I", Cond.fieldLink RX2 41 "PunchedTicket$Line" "to" "[I", Cond.methodLink RX2 92 yX2_highEnd, Cond.instanceMethod yX2_highEnd, Cond.selects RX2 yX2_highEnd yX2_highEnd, Cond.code yX2_highEnd cX2_highEnd 2 (some .int)]
def wsX3_firstTwoGifts : List Cond := .code yX3_firstTwoGifts cX3_firstTwoGifts 6 (some .int) :: ((wsX3_firstTwoGifts_r1 ++ (wsX3_firstTwoGifts_r2 ++ (wsX3_firstTwoGifts_r3 ++ (wsX3_firstTwoGifts_r4 ++ wsX3_firstTwoGifts_r5)))) ++ wsX30 ++ wsX00 ++ wsX10 ++ wsX20)
def wsX3_fewest_r1 : List Cond := [Cond.fieldLink RX3 71 "PunchedTicket" "trial" "LPunchedTicket$Trial;", Cond.fieldLink RX3 32 "PunchedTicket" "now" "LPunchedTicket$Moment;", Cond.methodLink RX3 181 yX3_pairRefusal, Cond.instanceMethod yX3_pairRefusal, Cond.selects RX3 yX3_pairRefusal yX3_pairRefusal, Cond.initialized RX3, Cond.code yX3_pairRefusal cX3_pairRefusal 3 (some .int), Cond.fieldLink RX3 20 "PunchedTicket" "told" "LPunchedTicket$Line;", Cond.methodLink RX3 97 yX0_hasPerson, Cond.instanceMethod yX0_hasPerson, Cond.selects RX0 yX0_hasPerson yX0_hasPerson, Cond.initialized RX0, Cond.code yX0_hasPerson cX0_hasPerson 2 (some .boolean), Cond.fieldLink RX0 9 "PunchedTicket$Line" "people" "I", Cond.methodLink RX3 171 yX2_start, Cond.instanceMethod yX2_start, Cond.selects RX2 yX2_start yX2_start, Cond.initialized RX2, Cond.code yX2_start cX2_start 2 none, Cond.fieldLink RX2 24 "PunchedTicket$Trial" "moment" "LPunchedTicket$Moment;", Cond.methodLink RX2 28 yX1_copy, Cond.instanceMethod yX1_copy, Cond.selects RX1 yX1_copy yX1_copy, Cond.initialized RX1]
def wsX3_fewest_r2 : List Cond := [Cond.code yX1_copy cX1_copy 2 none, Cond.fieldLink RX1 9 "PunchedTicket$Moment" "day" "I", Cond.fieldLink RX1 15 "PunchedTicket$Moment" "tickets" "I", Cond.fieldLink RX1 18 "PunchedTicket$Moment" "returns" "I", Cond.fieldLink RX1 21 "PunchedTicket$Moment" "gone" "I", Cond.fieldLink RX1 24 "PunchedTicket$Moment" "at" "[I", Cond.methodLink RX1 44 arraycopyName, Cond.native arraycopyName, Cond.static arraycopyName, Cond.initialized "java/lang/System", Cond.fieldLink RX1 28 "PunchedTicket$Moment" "forDay" "[I", Cond.fieldLink RX1 31 "PunchedTicket$Moment" "holder" "[I", Cond.methodLink RX3 185 yX2_firstMeeting, Cond.instanceMethod yX2_firstMeeting, Cond.selects RX2 yX2_firstMeeting yX2_firstMeeting, Cond.code yX2_firstMeeting cX2_firstMeeting 4 (some .int), Cond.fieldLink RX2 51 "PunchedTicket$Moment" "day" "I", Cond.fieldLink RX2 9 "PunchedTicket$Trial" "rides" "[I", Cond.methodLink RX2 54 yX1_passDay, Cond.instanceMethod yX1_passDay, Cond.selects RX1 yX1_passDay yX1_passDay, Cond.code yX1_passDay cX1_passDay 5 (some .int), Cond.fieldLink RX1 34 "PunchedTicket$Moment" "line" "LPunchedTicket$Line;", Cond.fieldLink RX1 65 "PunchedTicket$Line" "people" "I"]
def wsX3_fewest_r3 : List Cond := [Cond.methodLink RX1 81 yX1_findRides, Cond.instanceMethod yX1_findRides, Cond.selects RX1 yX1_findRides yX1_findRides, Cond.code yX1_findRides cX1_findRides 4 none, Cond.methodLink RX1 71 yX0_hasPerson, Cond.methodLink RX1 74 yX1_canTake, Cond.instanceMethod yX1_canTake, Cond.selects RX1 yX1_canTake yX1_canTake, Cond.code yX1_canTake cX1_canTake 5 (some .boolean), Cond.fieldLink RX1 56 "PunchedTicket$Line" "to" "[I", Cond.fieldLink RX1 59 "PunchedTicket$Line" "from" "[I", Cond.fieldLink RX1 78 "PunchedTicket$Line" "kind" "[I", Cond.methodLink RX1 85 yX1_hasTicket, Cond.instanceMethod yX1_hasTicket, Cond.selects RX1 yX1_hasTicket yX1_hasTicket, Cond.code yX1_hasTicket cX1_hasTicket 2 (some .boolean), Cond.methodLink RX1 88 yX1_to, Cond.instanceMethod yX1_to, Cond.selects RX1 yX1_to yX1_to, Cond.code yX1_to cX1_to 2 (some .int), Cond.methodLink RX1 52 yX1_isReturn, Cond.instanceMethod yX1_isReturn, Cond.selects RX1 yX1_isReturn yX1_isReturn, Cond.code yX1_isReturn cX1_isReturn 2 (some .boolean)]
def wsX3_fewest_r4 : List Cond := [Cond.methodLink RX1 91 yX1_useTicket, Cond.instanceMethod yX1_useTicket, Cond.selects RX1 yX1_useTicket yX1_useTicket, Cond.code yX1_useTicket cX1_useTicket 4 none, Cond.methodLink RX2 72 yX2_wentTogether, Cond.instanceMethod yX2_wentTogether, Cond.selects RX2 yX2_wentTogether yX2_wentTogether, Cond.code yX2_wentTogether cX2_wentTogether 5 (some .boolean), Cond.methodLink RX2 86 Lib.Math.max.name, Cond.static Lib.Math.max.name, Cond.initialized "java/lang/Math", Cond.code Lib.Math.max.name Lib.Math.max.code 2 (some .int), Cond.methodLink RX2 95 Lib.Math.min.name, Cond.static Lib.Math.min.name, Cond.code Lib.Math.min.name Lib.Math.min.code 2 (some .int), Cond.methodLink RX2 79 yX1_hasTicket, Cond.methodLink RX2 83 yX2_lowEnd, Cond.instanceMethod yX2_lowEnd, Cond.selects RX2 yX2_lowEnd yX2_lowEnd, Cond.code yX2_lowEnd cX2_lowEnd 2 (some .int), Cond.fieldLink RX2 15 "PunchedTicket$Trial" "line" "LPunchedTicket$Line;", Cond.fieldLink RX2 38 "PunchedTicket$Line" "from" "[I", Cond.fieldLink RX2 41 "PunchedTicket$Line" "to" "[I", Cond.methodLink RX2 92 yX2_highEnd]
def wsX3_fewest_r5 : List Cond := [Cond.instanceMethod yX2_highEnd, Cond.selects RX2 yX2_highEnd yX2_highEnd, Cond.code yX2_highEnd cX2_highEnd 2 (some .int), Cond.methodLink RX3 192 yX3_firstGift, Cond.instanceMethod yX3_firstGift, Cond.selects RX3 yX3_firstGift yX3_firstGift, Cond.code yX3_firstGift cX3_firstGift 9 (some .int), Cond.fieldLink RX3 94 "PunchedTicket$Line" "tickets" "I", Cond.fieldLink RX3 91 "PunchedTicket$Line" "people" "I", Cond.fieldLink RX3 178 "PunchedTicket$Trial" "moment" "LPunchedTicket$Moment;", Cond.fieldLink RX3 132 "PunchedTicket$Moment" "holder" "[I", Cond.methodLink RX3 117 yX1_hasTicket, Cond.methodLink RX3 154 yX1_canBeGiven, Cond.instanceMethod yX1_canBeGiven, Cond.selects RX1 yX1_canBeGiven yX1_canBeGiven, Cond.code yX1_canBeGiven cX1_canBeGiven 3 (some .boolean), Cond.methodLink RX1 62 yX1_isGone, Cond.instanceMethod yX1_isGone, Cond.selects RX1 yX1_isGone yX1_isGone, Cond.code yX1_isGone cX1_isGone 2 (some .boolean), Cond.methodLink RX3 196 yX3_firstTwoGifts, Cond.instanceMethod yX3_firstTwoGifts, Cond.selects RX3 yX3_firstTwoGifts yX3_firstTwoGifts, Cond.code yX3_firstTwoGifts cX3_firstTwoGifts 6 (some .int)]
def wsX3_fewest : List Cond := .code yX3_fewest cX3_fewest 7 (some .int) :: ((wsX3_fewest_r1 ++ (wsX3_fewest_r2 ++ (wsX3_fewest_r3 ++ (wsX3_fewest_r4 ++ wsX3_fewest_r5)))) ++ wsX30 ++ wsX00 ++ wsX20 ++ wsX10)
def wsX3_glad_r1 : List Cond := [Cond.fieldLink RX3 71 "PunchedTicket" "trial" "LPunchedTicket$Trial;", Cond.fieldLink RX3 32 "PunchedTicket" "now" "LPunchedTicket$Moment;", Cond.methodLink RX3 171 yX2_start, Cond.instanceMethod yX2_start, Cond.selects RX2 yX2_start yX2_start, Cond.initialized RX2, Cond.code yX2_start cX2_start 2 none, Cond.fieldLink RX2 24 "PunchedTicket$Trial" "moment" "LPunchedTicket$Moment;", Cond.methodLink RX2 28 yX1_copy, Cond.instanceMethod yX1_copy, Cond.selects RX1 yX1_copy yX1_copy, Cond.initialized RX1, Cond.code yX1_copy cX1_copy 2 none, Cond.fieldLink RX1 9 "PunchedTicket$Moment" "day" "I", Cond.fieldLink RX1 15 "PunchedTicket$Moment" "tickets" "I", Cond.fieldLink RX1 18 "PunchedTicket$Moment" "returns" "I", Cond.fieldLink RX1 21 "PunchedTicket$Moment" "gone" "I", Cond.fieldLink RX1 24 "PunchedTicket$Moment" "at" "[I", Cond.methodLink RX1 44 arraycopyName, Cond.native arraycopyName, Cond.static arraycopyName, Cond.initialized "java/lang/System", Cond.fieldLink RX1 28 "PunchedTicket$Moment" "forDay" "[I", Cond.fieldLink RX1 31 "PunchedTicket$Moment" "holder" "[I"]
def wsX3_glad_r2 : List Cond := [Cond.methodLink RX3 199 yX2_gladAtEnd, Cond.instanceMethod yX2_gladAtEnd, Cond.selects RX2 yX2_gladAtEnd yX2_gladAtEnd, Cond.code yX2_gladAtEnd cX2_gladAtEnd 1 (some .int), Cond.methodLink RX2 64 yX2_passDaysTo, Cond.instanceMethod yX2_passDaysTo, Cond.selects RX2 yX2_passDaysTo yX2_passDaysTo, Cond.code yX2_passDaysTo cX2_passDaysTo 3 none, Cond.fieldLink RX2 51 "PunchedTicket$Moment" "day" "I", Cond.fieldLink RX2 9 "PunchedTicket$Trial" "rides" "[I", Cond.methodLink RX2 54 yX1_passDay, Cond.instanceMethod yX1_passDay, Cond.selects RX1 yX1_passDay yX1_passDay, Cond.code yX1_passDay cX1_passDay 5 (some .int), Cond.fieldLink RX1 34 "PunchedTicket$Moment" "line" "LPunchedTicket$Line;", Cond.fieldLink RX1 65 "PunchedTicket$Line" "people" "I", Cond.methodLink RX1 81 yX1_findRides, Cond.instanceMethod yX1_findRides, Cond.selects RX1 yX1_findRides yX1_findRides, Cond.code yX1_findRides cX1_findRides 4 none, Cond.methodLink RX1 71 yX0_hasPerson, Cond.instanceMethod yX0_hasPerson, Cond.selects RX0 yX0_hasPerson yX0_hasPerson, Cond.initialized RX0]
def wsX3_glad_r3 : List Cond := [Cond.code yX0_hasPerson cX0_hasPerson 2 (some .boolean), Cond.fieldLink RX0 9 "PunchedTicket$Line" "people" "I", Cond.methodLink RX1 74 yX1_canTake, Cond.instanceMethod yX1_canTake, Cond.selects RX1 yX1_canTake yX1_canTake, Cond.code yX1_canTake cX1_canTake 5 (some .boolean), Cond.fieldLink RX1 56 "PunchedTicket$Line" "to" "[I", Cond.fieldLink RX1 59 "PunchedTicket$Line" "from" "[I", Cond.fieldLink RX1 78 "PunchedTicket$Line" "kind" "[I", Cond.methodLink RX1 85 yX1_hasTicket, Cond.instanceMethod yX1_hasTicket, Cond.selects RX1 yX1_hasTicket yX1_hasTicket, Cond.code yX1_hasTicket cX1_hasTicket 2 (some .boolean), Cond.methodLink RX1 88 yX1_to, Cond.instanceMethod yX1_to, Cond.selects RX1 yX1_to yX1_to, Cond.code yX1_to cX1_to 2 (some .int), Cond.methodLink RX1 52 yX1_isReturn, Cond.instanceMethod yX1_isReturn, Cond.selects RX1 yX1_isReturn yX1_isReturn, Cond.code yX1_isReturn cX1_isReturn 2 (some .boolean), Cond.methodLink RX1 91 yX1_useTicket, Cond.instanceMethod yX1_useTicket, Cond.selects RX1 yX1_useTicket yX1_useTicket]
def wsX3_glad_r4 : List Cond := [Cond.code yX1_useTicket cX1_useTicket 4 none, Cond.methodLink RX2 68 yX1_gladNow, Cond.instanceMethod yX1_gladNow, Cond.selects RX1 yX1_gladNow yX1_gladNow, Cond.code yX1_gladNow cX1_gladNow 3 (some .int), Cond.fieldLink RX1 68 "PunchedTicket$Line" "liked" "[I"]
def wsX3_glad : List Cond := .code yX3_glad cX3_glad 1 (some .int) :: ((wsX3_glad_r1 ++ (wsX3_glad_r2 ++ (wsX3_glad_r3 ++ wsX3_glad_r4))) ++ wsX30 ++ wsX20 ++ wsX10 ++ wsX00)
def wsX3_falls_r1 : List Cond := [Cond.fieldLink RX3 32 "PunchedTicket" "now" "LPunchedTicket$Moment;", Cond.fieldLink RX3 71 "PunchedTicket" "trial" "LPunchedTicket$Trial;", Cond.fieldLink RX3 178 "PunchedTicket$Trial" "moment" "LPunchedTicket$Moment;", Cond.fieldLink RX3 158 "PunchedTicket$Moment" "gone" "I", Cond.methodLink RX3 117 yX1_hasTicket, Cond.instanceMethod yX1_hasTicket, Cond.selects RX1 yX1_hasTicket yX1_hasTicket, Cond.initialized RX1, Cond.code yX1_hasTicket cX1_hasTicket 2 (some .boolean), Cond.fieldLink RX1 15 "PunchedTicket$Moment" "tickets" "I", Cond.methodLink RX3 171 yX2_start, Cond.instanceMethod yX2_start, Cond.selects RX2 yX2_start yX2_start, Cond.initialized RX2, Cond.code yX2_start cX2_start 2 none, Cond.fieldLink RX2 24 "PunchedTicket$Trial" "moment" "LPunchedTicket$Moment;", Cond.methodLink RX2 28 yX1_copy, Cond.instanceMethod yX1_copy, Cond.selects RX1 yX1_copy yX1_copy, Cond.code yX1_copy cX1_copy 2 none, Cond.fieldLink RX1 9 "PunchedTicket$Moment" "day" "I", Cond.fieldLink RX1 18 "PunchedTicket$Moment" "returns" "I", Cond.fieldLink RX1 21 "PunchedTicket$Moment" "gone" "I", Cond.fieldLink RX1 24 "PunchedTicket$Moment" "at" "[I"]
def wsX3_falls_r2 : List Cond := [Cond.methodLink RX1 44 arraycopyName, Cond.native arraycopyName, Cond.static arraycopyName, Cond.initialized "java/lang/System", Cond.fieldLink RX1 28 "PunchedTicket$Moment" "forDay" "[I", Cond.fieldLink RX1 31 "PunchedTicket$Moment" "holder" "[I", Cond.methodLink RX3 202 yX2_journeysToEnd, Cond.instanceMethod yX2_journeysToEnd, Cond.selects RX2 yX2_journeysToEnd yX2_journeysToEnd, Cond.code yX2_journeysToEnd cX2_journeysToEnd 3 (some .int), Cond.fieldLink RX2 51 "PunchedTicket$Moment" "day" "I", Cond.fieldLink RX2 9 "PunchedTicket$Trial" "rides" "[I", Cond.methodLink RX2 54 yX1_passDay, Cond.instanceMethod yX1_passDay, Cond.selects RX1 yX1_passDay yX1_passDay, Cond.code yX1_passDay cX1_passDay 5 (some .int), Cond.fieldLink RX1 34 "PunchedTicket$Moment" "line" "LPunchedTicket$Line;", Cond.fieldLink RX1 65 "PunchedTicket$Line" "people" "I", Cond.methodLink RX1 81 yX1_findRides, Cond.instanceMethod yX1_findRides, Cond.selects RX1 yX1_findRides yX1_findRides, Cond.code yX1_findRides cX1_findRides 4 none, Cond.methodLink RX1 71 yX0_hasPerson, Cond.instanceMethod yX0_hasPerson]
def wsX3_falls_r3 : List Cond := [Cond.selects RX0 yX0_hasPerson yX0_hasPerson, Cond.initialized RX0, Cond.code yX0_hasPerson cX0_hasPerson 2 (some .boolean), Cond.fieldLink RX0 9 "PunchedTicket$Line" "people" "I", Cond.methodLink RX1 74 yX1_canTake, Cond.instanceMethod yX1_canTake, Cond.selects RX1 yX1_canTake yX1_canTake, Cond.code yX1_canTake cX1_canTake 5 (some .boolean), Cond.fieldLink RX1 56 "PunchedTicket$Line" "to" "[I", Cond.fieldLink RX1 59 "PunchedTicket$Line" "from" "[I", Cond.fieldLink RX1 78 "PunchedTicket$Line" "kind" "[I", Cond.methodLink RX1 85 yX1_hasTicket, Cond.methodLink RX1 88 yX1_to, Cond.instanceMethod yX1_to, Cond.selects RX1 yX1_to yX1_to, Cond.code yX1_to cX1_to 2 (some .int), Cond.methodLink RX1 52 yX1_isReturn, Cond.instanceMethod yX1_isReturn, Cond.selects RX1 yX1_isReturn yX1_isReturn, Cond.code yX1_isReturn cX1_isReturn 2 (some .boolean), Cond.methodLink RX1 91 yX1_useTicket, Cond.instanceMethod yX1_useTicket, Cond.selects RX1 yX1_useTicket yX1_useTicket, Cond.code yX1_useTicket cX1_useTicket 4 none]
def wsX3_falls_r4 : List Cond := [Cond.methodLink RX2 58 yJ6_bitCount_0f7a4, Cond.static yJ6_bitCount_0f7a4, Cond.initialized RJ6, Cond.code yJ6_bitCount_0f7a4 cJ6_bitCount_0f7a4 1 (some .int), Cond.constant RJ6 265 (1431655765), Cond.constant RJ6 266 (858993459), Cond.constant RJ6 267 (252645135)]
def wsX3_falls : List Cond := .code yX3_falls cX3_falls 3 (some .int) :: ((wsX3_falls_r1 ++ (wsX3_falls_r2 ++ (wsX3_falls_r3 ++ wsX3_falls_r4))) ++ wsX30 ++ wsX20 ++ wsX10 ++ wsX00)
def wsX3_gladIfChanged_r1 : List Cond := [Cond.fieldLink RX3 32 "PunchedTicket" "now" "LPunchedTicket$Moment;", Cond.fieldLink RX3 71 "PunchedTicket" "trial" "LPunchedTicket$Trial;", Cond.fieldLink RX3 178 "PunchedTicket$Trial" "moment" "LPunchedTicket$Moment;", Cond.methodLink RX3 161 yX1_canBeChanged, Cond.instanceMethod yX1_canBeChanged, Cond.selects RX1 yX1_canBeChanged yX1_canBeChanged, Cond.initialized RX1, Cond.code yX1_canBeChanged cX1_canBeChanged 3 (some .boolean), Cond.fieldLink RX1 31 "PunchedTicket$Moment" "holder" "[I", Cond.methodLink RX1 62 yX1_isGone, Cond.instanceMethod yX1_isGone, Cond.selects RX1 yX1_isGone yX1_isGone, Cond.code yX1_isGone cX1_isGone 2 (some .boolean), Cond.fieldLink RX1 21 "PunchedTicket$Moment" "gone" "I", Cond.methodLink RX3 171 yX2_start, Cond.instanceMethod yX2_start, Cond.selects RX2 yX2_start yX2_start, Cond.initialized RX2, Cond.code yX2_start cX2_start 2 none, Cond.fieldLink RX2 24 "PunchedTicket$Trial" "moment" "LPunchedTicket$Moment;", Cond.methodLink RX2 28 yX1_copy, Cond.instanceMethod yX1_copy, Cond.selects RX1 yX1_copy yX1_copy, Cond.code yX1_copy cX1_copy 2 none]
def wsX3_gladIfChanged_r2 : List Cond := [Cond.fieldLink RX1 9 "PunchedTicket$Moment" "day" "I", Cond.fieldLink RX1 15 "PunchedTicket$Moment" "tickets" "I", Cond.fieldLink RX1 18 "PunchedTicket$Moment" "returns" "I", Cond.fieldLink RX1 24 "PunchedTicket$Moment" "at" "[I", Cond.methodLink RX1 44 arraycopyName, Cond.native arraycopyName, Cond.static arraycopyName, Cond.initialized "java/lang/System", Cond.fieldLink RX1 28 "PunchedTicket$Moment" "forDay" "[I", Cond.methodLink RX3 164 yX1_swapHolders, Cond.instanceMethod yX1_swapHolders, Cond.selects RX1 yX1_swapHolders yX1_swapHolders, Cond.code yX1_swapHolders cX1_swapHolders 4 none, Cond.methodLink RX3 199 yX2_gladAtEnd, Cond.instanceMethod yX2_gladAtEnd, Cond.selects RX2 yX2_gladAtEnd yX2_gladAtEnd, Cond.code yX2_gladAtEnd cX2_gladAtEnd 1 (some .int), Cond.methodLink RX2 64 yX2_passDaysTo, Cond.instanceMethod yX2_passDaysTo, Cond.selects RX2 yX2_passDaysTo yX2_passDaysTo, Cond.code yX2_passDaysTo cX2_passDaysTo 3 none, Cond.fieldLink RX2 51 "PunchedTicket$Moment" "day" "I", Cond.fieldLink RX2 9 "PunchedTicket$Trial" "rides" "[I", Cond.methodLink RX2 54 yX1_passDay]
def wsX3_gladIfChanged_r3 : List Cond := [Cond.instanceMethod yX1_passDay, Cond.selects RX1 yX1_passDay yX1_passDay, Cond.code yX1_passDay cX1_passDay 5 (some .int), Cond.fieldLink RX1 34 "PunchedTicket$Moment" "line" "LPunchedTicket$Line;", Cond.fieldLink RX1 65 "PunchedTicket$Line" "people" "I", Cond.methodLink RX1 81 yX1_findRides, Cond.instanceMethod yX1_findRides, Cond.selects RX1 yX1_findRides yX1_findRides, Cond.code yX1_findRides cX1_findRides 4 none, Cond.methodLink RX1 71 yX0_hasPerson, Cond.instanceMethod yX0_hasPerson, Cond.selects RX0 yX0_hasPerson yX0_hasPerson, Cond.initialized RX0, Cond.code yX0_hasPerson cX0_hasPerson 2 (some .boolean), Cond.fieldLink RX0 9 "PunchedTicket$Line" "people" "I", Cond.methodLink RX1 74 yX1_canTake, Cond.instanceMethod yX1_canTake, Cond.selects RX1 yX1_canTake yX1_canTake, Cond.code yX1_canTake cX1_canTake 5 (some .boolean), Cond.fieldLink RX1 56 "PunchedTicket$Line" "to" "[I", Cond.fieldLink RX1 59 "PunchedTicket$Line" "from" "[I", Cond.fieldLink RX1 78 "PunchedTicket$Line" "kind" "[I", Cond.methodLink RX1 85 yX1_hasTicket, Cond.instanceMethod yX1_hasTicket]
def wsX3_gladIfChanged_r4 : List Cond := [Cond.selects RX1 yX1_hasTicket yX1_hasTicket, Cond.code yX1_hasTicket cX1_hasTicket 2 (some .boolean), Cond.methodLink RX1 88 yX1_to, Cond.instanceMethod yX1_to, Cond.selects RX1 yX1_to yX1_to, Cond.code yX1_to cX1_to 2 (some .int), Cond.methodLink RX1 52 yX1_isReturn, Cond.instanceMethod yX1_isReturn, Cond.selects RX1 yX1_isReturn yX1_isReturn, Cond.code yX1_isReturn cX1_isReturn 2 (some .boolean), Cond.methodLink RX1 91 yX1_useTicket, Cond.instanceMethod yX1_useTicket, Cond.selects RX1 yX1_useTicket yX1_useTicket, Cond.code yX1_useTicket cX1_useTicket 4 none, Cond.methodLink RX2 68 yX1_gladNow, Cond.instanceMethod yX1_gladNow, Cond.selects RX1 yX1_gladNow yX1_gladNow, Cond.code yX1_gladNow cX1_gladNow 3 (some .int), Cond.fieldLink RX1 68 "PunchedTicket$Line" "liked" "[I"]
def wsX3_gladIfChanged : List Cond := .code yX3_gladIfChanged cX3_gladIfChanged 3 (some .int) :: ((wsX3_gladIfChanged_r1 ++ (wsX3_gladIfChanged_r2 ++ (wsX3_gladIfChanged_r3 ++ wsX3_gladIfChanged_r4))) ++ wsX30 ++ wsX20 ++ wsX10 ++ wsX00)
def wsX3_bestChange_r1 : List Cond := [Cond.fieldLink RX3 20 "PunchedTicket" "told" "LPunchedTicket$Line;", Cond.fieldLink RX3 94 "PunchedTicket$Line" "tickets" "I", Cond.methodLink RX3 205 yX3_glad, Cond.instanceMethod yX3_glad, Cond.selects RX3 yX3_glad yX3_glad, Cond.initialized RX3, Cond.code yX3_glad cX3_glad 1 (some .int), Cond.fieldLink RX3 71 "PunchedTicket" "trial" "LPunchedTicket$Trial;", Cond.fieldLink RX3 32 "PunchedTicket" "now" "LPunchedTicket$Moment;", Cond.methodLink RX3 171 yX2_start, Cond.instanceMethod yX2_start, Cond.selects RX2 yX2_start yX2_start, Cond.initialized RX2, Cond.code yX2_start cX2_start 2 none, Cond.fieldLink RX2 24 "PunchedTicket$Trial" "moment" "LPunchedTicket$Moment;", Cond.methodLink RX2 28 yX1_copy, Cond.instanceMethod yX1_copy, Cond.selects RX1 yX1_copy yX1_copy, Cond.initialized RX1, Cond.code yX1_copy cX1_copy 2 none, Cond.fieldLink RX1 9 "PunchedTicket$Moment" "day" "I", Cond.fieldLink RX1 15 "PunchedTicket$Moment" "tickets" "I", Cond.fieldLink RX1 18 "PunchedTicket$Moment" "returns" "I", Cond.fieldLink RX1 21 "PunchedTicket$Moment" "gone" "I"]
def wsX3_bestChange_r2 : List Cond := [Cond.fieldLink RX1 24 "PunchedTicket$Moment" "at" "[I", Cond.methodLink RX1 44 arraycopyName, Cond.native arraycopyName, Cond.static arraycopyName, Cond.initialized "java/lang/System", Cond.fieldLink RX1 28 "PunchedTicket$Moment" "forDay" "[I", Cond.fieldLink RX1 31 "PunchedTicket$Moment" "holder" "[I", Cond.methodLink RX3 199 yX2_gladAtEnd, Cond.instanceMethod yX2_gladAtEnd, Cond.selects RX2 yX2_gladAtEnd yX2_gladAtEnd, Cond.code yX2_gladAtEnd cX2_gladAtEnd 1 (some .int), Cond.methodLink RX2 64 yX2_passDaysTo, Cond.instanceMethod yX2_passDaysTo, Cond.selects RX2 yX2_passDaysTo yX2_passDaysTo, Cond.code yX2_passDaysTo cX2_passDaysTo 3 none, Cond.fieldLink RX2 51 "PunchedTicket$Moment" "day" "I", Cond.fieldLink RX2 9 "PunchedTicket$Trial" "rides" "[I", Cond.methodLink RX2 54 yX1_passDay, Cond.instanceMethod yX1_passDay, Cond.selects RX1 yX1_passDay yX1_passDay, Cond.code yX1_passDay cX1_passDay 5 (some .int), Cond.fieldLink RX1 34 "PunchedTicket$Moment" "line" "LPunchedTicket$Line;", Cond.fieldLink RX1 65 "PunchedTicket$Line" "people" "I", Cond.methodLink RX1 81 yX1_findRides]
def wsX3_bestChange_r3 : List Cond := [Cond.instanceMethod yX1_findRides, Cond.selects RX1 yX1_findRides yX1_findRides, Cond.code yX1_findRides cX1_findRides 4 none, Cond.methodLink RX1 71 yX0_hasPerson, Cond.instanceMethod yX0_hasPerson, Cond.selects RX0 yX0_hasPerson yX0_hasPerson, Cond.initialized RX0, Cond.code yX0_hasPerson cX0_hasPerson 2 (some .boolean), Cond.fieldLink RX0 9 "PunchedTicket$Line" "people" "I", Cond.methodLink RX1 74 yX1_canTake, Cond.instanceMethod yX1_canTake, Cond.selects RX1 yX1_canTake yX1_canTake, Cond.code yX1_canTake cX1_canTake 5 (some .boolean), Cond.fieldLink RX1 56 "PunchedTicket$Line" "to" "[I", Cond.fieldLink RX1 59 "PunchedTicket$Line" "from" "[I", Cond.fieldLink RX1 78 "PunchedTicket$Line" "kind" "[I", Cond.methodLink RX1 85 yX1_hasTicket, Cond.instanceMethod yX1_hasTicket, Cond.selects RX1 yX1_hasTicket yX1_hasTicket, Cond.code yX1_hasTicket cX1_hasTicket 2 (some .boolean), Cond.methodLink RX1 88 yX1_to, Cond.instanceMethod yX1_to, Cond.selects RX1 yX1_to yX1_to, Cond.code yX1_to cX1_to 2 (some .int)]
def wsX3_bestChange_r4 : List Cond := [Cond.methodLink RX1 52 yX1_isReturn, Cond.instanceMethod yX1_isReturn, Cond.selects RX1 yX1_isReturn yX1_isReturn, Cond.code yX1_isReturn cX1_isReturn 2 (some .boolean), Cond.methodLink RX1 91 yX1_useTicket, Cond.instanceMethod yX1_useTicket, Cond.selects RX1 yX1_useTicket yX1_useTicket, Cond.code yX1_useTicket cX1_useTicket 4 none, Cond.methodLink RX2 68 yX1_gladNow, Cond.instanceMethod yX1_gladNow, Cond.selects RX1 yX1_gladNow yX1_gladNow, Cond.code yX1_gladNow cX1_gladNow 3 (some .int), Cond.fieldLink RX1 68 "PunchedTicket$Line" "liked" "[I", Cond.methodLink RX3 208 yX3_gladIfChanged, Cond.instanceMethod yX3_gladIfChanged, Cond.selects RX3 yX3_gladIfChanged yX3_gladIfChanged, Cond.code yX3_gladIfChanged cX3_gladIfChanged 3 (some .int), Cond.fieldLink RX3 178 "PunchedTicket$Trial" "moment" "LPunchedTicket$Moment;", Cond.methodLink RX3 161 yX1_canBeChanged, Cond.instanceMethod yX1_canBeChanged, Cond.selects RX1 yX1_canBeChanged yX1_canBeChanged, Cond.code yX1_canBeChanged cX1_canBeChanged 3 (some .boolean), Cond.methodLink RX1 62 yX1_isGone, Cond.instanceMethod yX1_isGone]
def wsX3_bestChange_r5 : List Cond := [Cond.selects RX1 yX1_isGone yX1_isGone, Cond.code yX1_isGone cX1_isGone 2 (some .boolean), Cond.methodLink RX3 164 yX1_swapHolders, Cond.instanceMethod yX1_swapHolders, Cond.selects RX1 yX1_swapHolders yX1_swapHolders, Cond.code yX1_swapHolders cX1_swapHolders 4 none]
def wsX3_bestChange : List Cond := .code yX3_bestChange cX3_bestChange 6 (some .int) :: ((wsX3_bestChange_r1 ++ (wsX3_bestChange_r2 ++ (wsX3_bestChange_r3 ++ (wsX3_bestChange_r4 ++ wsX3_bestChange_r5)))) ++ wsX30 ++ wsX00 ++ wsX20 ++ wsX10)
def wsX3_commonDivisor : List Cond := .code yX3_commonDivisor cX3_commonDivisor 6 (some .int) :: ([])
def wsX3_fraction : List Cond := .code yX3_fraction cX3_fraction 4 (some .int) :: ([.methodLink RX3 288 Lib.Math.abs.name, .static Lib.Math.abs.name, .initialized "java/lang/Math", .code Lib.Math.abs.name Lib.Math.abs.code 1 (some .int), .methodLink RX3 293 yX3_commonDivisor, .static yX3_commonDivisor, .initialized RX3, .code yX3_commonDivisor cX3_commonDivisor 6 (some .int)])
def wsX3_factorial : List Cond := .code yX3_factorial cX3_factorial 3 (some .int) :: ([])
def wsX3_gladWithOnly_r1 : List Cond := [Cond.fieldLink RX3 71 "PunchedTicket" "trial" "LPunchedTicket$Trial;", Cond.fieldLink RX3 32 "PunchedTicket" "now" "LPunchedTicket$Moment;", Cond.fieldLink RX3 178 "PunchedTicket$Trial" "moment" "LPunchedTicket$Moment;", Cond.fieldLink RX3 158 "PunchedTicket$Moment" "gone" "I", Cond.methodLink RX3 171 yX2_start, Cond.instanceMethod yX2_start, Cond.selects RX2 yX2_start yX2_start, Cond.initialized RX2, Cond.code yX2_start cX2_start 2 none, Cond.fieldLink RX2 24 "PunchedTicket$Trial" "moment" "LPunchedTicket$Moment;", Cond.methodLink RX2 28 yX1_copy, Cond.instanceMethod yX1_copy, Cond.selects RX1 yX1_copy yX1_copy, Cond.initialized RX1, Cond.code yX1_copy cX1_copy 2 none, Cond.fieldLink RX1 9 "PunchedTicket$Moment" "day" "I", Cond.fieldLink RX1 15 "PunchedTicket$Moment" "tickets" "I", Cond.fieldLink RX1 18 "PunchedTicket$Moment" "returns" "I", Cond.fieldLink RX1 21 "PunchedTicket$Moment" "gone" "I", Cond.fieldLink RX1 24 "PunchedTicket$Moment" "at" "[I", Cond.methodLink RX1 44 arraycopyName, Cond.native arraycopyName, Cond.static arraycopyName, Cond.initialized "java/lang/System"]
def wsX3_gladWithOnly_r2 : List Cond := [Cond.fieldLink RX1 28 "PunchedTicket$Moment" "forDay" "[I", Cond.fieldLink RX1 31 "PunchedTicket$Moment" "holder" "[I", Cond.methodLink RX3 199 yX2_gladAtEnd, Cond.instanceMethod yX2_gladAtEnd, Cond.selects RX2 yX2_gladAtEnd yX2_gladAtEnd, Cond.code yX2_gladAtEnd cX2_gladAtEnd 1 (some .int), Cond.methodLink RX2 64 yX2_passDaysTo, Cond.instanceMethod yX2_passDaysTo, Cond.selects RX2 yX2_passDaysTo yX2_passDaysTo, Cond.code yX2_passDaysTo cX2_passDaysTo 3 none, Cond.fieldLink RX2 51 "PunchedTicket$Moment" "day" "I", Cond.fieldLink RX2 9 "PunchedTicket$Trial" "rides" "[I", Cond.methodLink RX2 54 yX1_passDay, Cond.instanceMethod yX1_passDay, Cond.selects RX1 yX1_passDay yX1_passDay, Cond.code yX1_passDay cX1_passDay 5 (some .int), Cond.fieldLink RX1 34 "PunchedTicket$Moment" "line" "LPunchedTicket$Line;", Cond.fieldLink RX1 65 "PunchedTicket$Line" "people" "I", Cond.methodLink RX1 81 yX1_findRides, Cond.instanceMethod yX1_findRides, Cond.selects RX1 yX1_findRides yX1_findRides, Cond.code yX1_findRides cX1_findRides 4 none, Cond.methodLink RX1 71 yX0_hasPerson, Cond.instanceMethod yX0_hasPerson]
def wsX3_gladWithOnly_r3 : List Cond := [Cond.selects RX0 yX0_hasPerson yX0_hasPerson, Cond.initialized RX0, Cond.code yX0_hasPerson cX0_hasPerson 2 (some .boolean), Cond.fieldLink RX0 9 "PunchedTicket$Line" "people" "I", Cond.methodLink RX1 74 yX1_canTake, Cond.instanceMethod yX1_canTake, Cond.selects RX1 yX1_canTake yX1_canTake, Cond.code yX1_canTake cX1_canTake 5 (some .boolean), Cond.fieldLink RX1 56 "PunchedTicket$Line" "to" "[I", Cond.fieldLink RX1 59 "PunchedTicket$Line" "from" "[I", Cond.fieldLink RX1 78 "PunchedTicket$Line" "kind" "[I", Cond.methodLink RX1 85 yX1_hasTicket, Cond.instanceMethod yX1_hasTicket, Cond.selects RX1 yX1_hasTicket yX1_hasTicket, Cond.code yX1_hasTicket cX1_hasTicket 2 (some .boolean), Cond.methodLink RX1 88 yX1_to, Cond.instanceMethod yX1_to, Cond.selects RX1 yX1_to yX1_to, Cond.code yX1_to cX1_to 2 (some .int), Cond.methodLink RX1 52 yX1_isReturn, Cond.instanceMethod yX1_isReturn, Cond.selects RX1 yX1_isReturn yX1_isReturn, Cond.code yX1_isReturn cX1_isReturn 2 (some .boolean), Cond.methodLink RX1 91 yX1_useTicket]
def wsX3_gladWithOnly_r4 : List Cond := [Cond.instanceMethod yX1_useTicket, Cond.selects RX1 yX1_useTicket yX1_useTicket, Cond.code yX1_useTicket cX1_useTicket 4 none, Cond.methodLink RX2 68 yX1_gladNow, Cond.instanceMethod yX1_gladNow, Cond.selects RX1 yX1_gladNow yX1_gladNow, Cond.code yX1_gladNow cX1_gladNow 3 (some .int), Cond.fieldLink RX1 68 "PunchedTicket$Line" "liked" "[I"]
def wsX3_gladWithOnly : List Cond := .code yX3_gladWithOnly cX3_gladWithOnly 2 (some .int) :: ((wsX3_gladWithOnly_r1 ++ (wsX3_gladWithOnly_r2 ++ (wsX3_gladWithOnly_r3 ++ wsX3_gladWithOnly_r4))) ++ wsX30 ++ wsX20 ++ wsX10 ++ wsX00)
def wsX3_share_r1 : List Cond := [Cond.fieldLink RX3 32 "PunchedTicket" "now" "LPunchedTicket$Moment;", Cond.methodLink RX3 117 yX1_hasTicket, Cond.instanceMethod yX1_hasTicket, Cond.selects RX1 yX1_hasTicket yX1_hasTicket, Cond.initialized RX1, Cond.code yX1_hasTicket cX1_hasTicket 2 (some .boolean), Cond.fieldLink RX1 15 "PunchedTicket$Moment" "tickets" "I", Cond.methodLink RX3 138 yX1_isGone, Cond.instanceMethod yX1_isGone, Cond.selects RX1 yX1_isGone yX1_isGone, Cond.code yX1_isGone cX1_isGone 2 (some .boolean), Cond.fieldLink RX1 21 "PunchedTicket$Moment" "gone" "I", Cond.methodLink RX3 211 yX3_fraction, Cond.static yX3_fraction, Cond.initialized RX3, Cond.code yX3_fraction cX3_fraction 4 (some .int), Cond.methodLink RX3 288 Lib.Math.abs.name, Cond.static Lib.Math.abs.name, Cond.initialized "java/lang/Math", Cond.code Lib.Math.abs.name Lib.Math.abs.code 1 (some .int), Cond.methodLink RX3 293 yX3_commonDivisor, Cond.static yX3_commonDivisor, Cond.code yX3_commonDivisor cX3_commonDivisor 6 (some .int), Cond.methodLink RX3 215 yX1_notGone]
def wsX3_share_r2 : List Cond := [Cond.instanceMethod yX1_notGone, Cond.selects RX1 yX1_notGone yX1_notGone, Cond.code yX1_notGone cX1_notGone 1 (some .int), Cond.methodLink RX3 218 yJ6_bitCount_0f7a4, Cond.static yJ6_bitCount_0f7a4, Cond.initialized RJ6, Cond.code yJ6_bitCount_0f7a4 cJ6_bitCount_0f7a4 1 (some .int), Cond.constant RJ6 265 (1431655765), Cond.constant RJ6 266 (858993459), Cond.constant RJ6 267 (252645135), Cond.methodLink RX3 223 yX3_factorial, Cond.static yX3_factorial, Cond.code yX3_factorial cX3_factorial 3 (some .int), Cond.methodLink RX3 226 yX3_gladWithOnly, Cond.instanceMethod yX3_gladWithOnly, Cond.selects RX3 yX3_gladWithOnly yX3_gladWithOnly, Cond.code yX3_gladWithOnly cX3_gladWithOnly 2 (some .int), Cond.fieldLink RX3 71 "PunchedTicket" "trial" "LPunchedTicket$Trial;", Cond.fieldLink RX3 178 "PunchedTicket$Trial" "moment" "LPunchedTicket$Moment;", Cond.fieldLink RX3 158 "PunchedTicket$Moment" "gone" "I", Cond.methodLink RX3 171 yX2_start, Cond.instanceMethod yX2_start, Cond.selects RX2 yX2_start yX2_start, Cond.initialized RX2]
def wsX3_share_r3 : List Cond := [Cond.code yX2_start cX2_start 2 none, Cond.fieldLink RX2 24 "PunchedTicket$Trial" "moment" "LPunchedTicket$Moment;", Cond.methodLink RX2 28 yX1_copy, Cond.instanceMethod yX1_copy, Cond.selects RX1 yX1_copy yX1_copy, Cond.code yX1_copy cX1_copy 2 none, Cond.fieldLink RX1 9 "PunchedTicket$Moment" "day" "I", Cond.fieldLink RX1 18 "PunchedTicket$Moment" "returns" "I", Cond.fieldLink RX1 24 "PunchedTicket$Moment" "at" "[I", Cond.methodLink RX1 44 arraycopyName, Cond.native arraycopyName, Cond.static arraycopyName, Cond.initialized "java/lang/System", Cond.fieldLink RX1 28 "PunchedTicket$Moment" "forDay" "[I", Cond.fieldLink RX1 31 "PunchedTicket$Moment" "holder" "[I", Cond.methodLink RX3 199 yX2_gladAtEnd, Cond.instanceMethod yX2_gladAtEnd, Cond.selects RX2 yX2_gladAtEnd yX2_gladAtEnd, Cond.code yX2_gladAtEnd cX2_gladAtEnd 1 (some .int), Cond.methodLink RX2 64 yX2_passDaysTo, Cond.instanceMethod yX2_passDaysTo, Cond.selects RX2 yX2_passDaysTo yX2_passDaysTo, Cond.code yX2_passDaysTo cX2_passDaysTo 3 none, Cond.fieldLink RX2 51 "PunchedTicket$Moment" "day" "I"]
def wsX3_share_r4 : List Cond := [Cond.fieldLink RX2 9 "PunchedTicket$Trial" "rides" "[I", Cond.methodLink RX2 54 yX1_passDay, Cond.instanceMethod yX1_passDay, Cond.selects RX1 yX1_passDay yX1_passDay, Cond.code yX1_passDay cX1_passDay 5 (some .int), Cond.fieldLink RX1 34 "PunchedTicket$Moment" "line" "LPunchedTicket$Line;", Cond.fieldLink RX1 65 "PunchedTicket$Line" "people" "I", Cond.methodLink RX1 81 yX1_findRides, Cond.instanceMethod yX1_findRides, Cond.selects RX1 yX1_findRides yX1_findRides, Cond.code yX1_findRides cX1_findRides 4 none, Cond.methodLink RX1 71 yX0_hasPerson, Cond.instanceMethod yX0_hasPerson, Cond.selects RX0 yX0_hasPerson yX0_hasPerson, Cond.initialized RX0, Cond.code yX0_hasPerson cX0_hasPerson 2 (some .boolean), Cond.fieldLink RX0 9 "PunchedTicket$Line" "people" "I", Cond.methodLink RX1 74 yX1_canTake, Cond.instanceMethod yX1_canTake, Cond.selects RX1 yX1_canTake yX1_canTake, Cond.code yX1_canTake cX1_canTake 5 (some .boolean), Cond.fieldLink RX1 56 "PunchedTicket$Line" "to" "[I", Cond.fieldLink RX1 59 "PunchedTicket$Line" "from" "[I", Cond.fieldLink RX1 78 "PunchedTicket$Line" "kind" "[I"]
def wsX3_share_r5 : List Cond := [Cond.methodLink RX1 85 yX1_hasTicket, Cond.methodLink RX1 88 yX1_to, Cond.instanceMethod yX1_to, Cond.selects RX1 yX1_to yX1_to, Cond.code yX1_to cX1_to 2 (some .int), Cond.methodLink RX1 52 yX1_isReturn, Cond.instanceMethod yX1_isReturn, Cond.selects RX1 yX1_isReturn yX1_isReturn, Cond.code yX1_isReturn cX1_isReturn 2 (some .boolean), Cond.methodLink RX1 91 yX1_useTicket, Cond.instanceMethod yX1_useTicket, Cond.selects RX1 yX1_useTicket yX1_useTicket, Cond.code yX1_useTicket cX1_useTicket 4 none, Cond.methodLink RX2 68 yX1_gladNow, Cond.instanceMethod yX1_gladNow, Cond.selects RX1 yX1_gladNow yX1_gladNow, Cond.code yX1_gladNow cX1_gladNow 3 (some .int), Cond.fieldLink RX1 68 "PunchedTicket$Line" "liked" "[I"]
def wsX3_share : List Cond := .code yX3_share cX3_share 9 (some .int) :: ((wsX3_share_r1 ++ (wsX3_share_r2 ++ (wsX3_share_r3 ++ (wsX3_share_r4 ++ wsX3_share_r5)))) ++ wsX30 ++ wsX10 ++ wsX20 ++ wsX00)
def wsX3_isStop : List Cond := .code yX3_isStop cX3_isStop 1 (some .boolean) :: ([])
def wsX3_firstFreeSeat : List Cond := .code yX3_firstFreeSeat cX3_firstFreeSeat 2 (some .int) :: ([])
def wsX3_seatOfUnusedBlank_r1 : List Cond := [Cond.fieldLink RX3 71 "PunchedTicket" "trial" "LPunchedTicket$Trial;", Cond.fieldLink RX3 32 "PunchedTicket" "now" "LPunchedTicket$Moment;", Cond.fieldLink RX3 75 "PunchedTicket" "idleAt" "[I", Cond.fieldLink RX3 141 "PunchedTicket$Moment" "day" "I", Cond.fieldLink RX3 178 "PunchedTicket$Trial" "moment" "LPunchedTicket$Moment;", Cond.fieldLink RX3 101 "PunchedTicket$Moment" "at" "[I", Cond.fieldLink RX3 147 "PunchedTicket$Trial" "rides" "[I", Cond.methodLink RX3 171 yX2_start, Cond.instanceMethod yX2_start, Cond.selects RX2 yX2_start yX2_start, Cond.initialized RX2, Cond.code yX2_start cX2_start 2 none, Cond.fieldLink RX2 24 "PunchedTicket$Trial" "moment" "LPunchedTicket$Moment;", Cond.methodLink RX2 28 yX1_copy, Cond.instanceMethod yX1_copy, Cond.selects RX1 yX1_copy yX1_copy, Cond.initialized RX1, Cond.code yX1_copy cX1_copy 2 none, Cond.fieldLink RX1 9 "PunchedTicket$Moment" "day" "I", Cond.fieldLink RX1 15 "PunchedTicket$Moment" "tickets" "I", Cond.fieldLink RX1 18 "PunchedTicket$Moment" "returns" "I", Cond.fieldLink RX1 21 "PunchedTicket$Moment" "gone" "I", Cond.fieldLink RX1 24 "PunchedTicket$Moment" "at" "[I", Cond.methodLink RX1 44 arraycopyName]
def wsX3_seatOfUnusedBlank_r2 : List Cond := [Cond.native arraycopyName, Cond.static arraycopyName, Cond.initialized "java/lang/System", Cond.fieldLink RX1 28 "PunchedTicket$Moment" "forDay" "[I", Cond.fieldLink RX1 31 "PunchedTicket$Moment" "holder" "[I", Cond.methodLink RX3 150 yX1_passDay, Cond.instanceMethod yX1_passDay, Cond.selects RX1 yX1_passDay yX1_passDay, Cond.code yX1_passDay cX1_passDay 5 (some .int), Cond.fieldLink RX1 34 "PunchedTicket$Moment" "line" "LPunchedTicket$Line;", Cond.fieldLink RX1 65 "PunchedTicket$Line" "people" "I", Cond.methodLink RX1 81 yX1_findRides, Cond.instanceMethod yX1_findRides, Cond.selects RX1 yX1_findRides yX1_findRides, Cond.code yX1_findRides cX1_findRides 4 none, Cond.methodLink RX1 71 yX0_hasPerson, Cond.instanceMethod yX0_hasPerson, Cond.selects RX0 yX0_hasPerson yX0_hasPerson, Cond.initialized RX0, Cond.code yX0_hasPerson cX0_hasPerson 2 (some .boolean), Cond.fieldLink RX0 9 "PunchedTicket$Line" "people" "I", Cond.methodLink RX1 74 yX1_canTake, Cond.instanceMethod yX1_canTake, Cond.selects RX1 yX1_canTake yX1_canTake]
def wsX3_seatOfUnusedBlank_r3 : List Cond := [Cond.code yX1_canTake cX1_canTake 5 (some .boolean), Cond.fieldLink RX1 56 "PunchedTicket$Line" "to" "[I", Cond.fieldLink RX1 59 "PunchedTicket$Line" "from" "[I", Cond.fieldLink RX1 78 "PunchedTicket$Line" "kind" "[I", Cond.methodLink RX1 85 yX1_hasTicket, Cond.instanceMethod yX1_hasTicket, Cond.selects RX1 yX1_hasTicket yX1_hasTicket, Cond.code yX1_hasTicket cX1_hasTicket 2 (some .boolean), Cond.methodLink RX1 88 yX1_to, Cond.instanceMethod yX1_to, Cond.selects RX1 yX1_to yX1_to, Cond.code yX1_to cX1_to 2 (some .int), Cond.methodLink RX1 52 yX1_isReturn, Cond.instanceMethod yX1_isReturn, Cond.selects RX1 yX1_isReturn yX1_isReturn, Cond.code yX1_isReturn cX1_isReturn 2 (some .boolean), Cond.methodLink RX1 91 yX1_useTicket, Cond.instanceMethod yX1_useTicket, Cond.selects RX1 yX1_useTicket yX1_useTicket, Cond.code yX1_useTicket cX1_useTicket 4 none, Cond.methodLink RX3 273 yX2_barredSeats, Cond.instanceMethod yX2_barredSeats, Cond.selects RX2 yX2_barredSeats yX2_barredSeats, Cond.code yX2_barredSeats cX2_barredSeats 5 (some .int)]
def wsX3_seatOfUnusedBlank_r4 : List Cond := [Cond.fieldLink RX2 15 "PunchedTicket$Trial" "line" "LPunchedTicket$Line;", Cond.fieldLink RX2 98 "PunchedTicket$Line" "people" "I", Cond.fieldLink RX2 9 "PunchedTicket$Trial" "rides" "[I", Cond.methodLink RX2 72 yX2_wentTogether, Cond.instanceMethod yX2_wentTogether, Cond.selects RX2 yX2_wentTogether yX2_wentTogether, Cond.code yX2_wentTogether cX2_wentTogether 5 (some .boolean), Cond.methodLink RX2 86 Lib.Math.max.name, Cond.static Lib.Math.max.name, Cond.initialized "java/lang/Math", Cond.code Lib.Math.max.name Lib.Math.max.code 2 (some .int), Cond.methodLink RX2 95 Lib.Math.min.name, Cond.static Lib.Math.min.name, Cond.code Lib.Math.min.name Lib.Math.min.code 2 (some .int), Cond.methodLink RX2 79 yX1_hasTicket, Cond.methodLink RX2 83 yX2_lowEnd, Cond.instanceMethod yX2_lowEnd, Cond.selects RX2 yX2_lowEnd yX2_lowEnd, Cond.code yX2_lowEnd cX2_lowEnd 2 (some .int), Cond.fieldLink RX2 38 "PunchedTicket$Line" "from" "[I", Cond.fieldLink RX2 41 "PunchedTicket$Line" "to" "[I", Cond.methodLink RX2 92 yX2_highEnd, Cond.instanceMethod yX2_highEnd, Cond.selects RX2 yX2_highEnd yX2_highEnd]
def wsX3_seatOfUnusedBlank_r5 : List Cond := [Cond.code yX2_highEnd cX2_highEnd 2 (some .int), Cond.methodLink RX2 101 yX2_barredByPair, Cond.instanceMethod yX2_barredByPair, Cond.selects RX2 yX2_barredByPair yX2_barredByPair, Cond.code yX2_barredByPair cX2_barredByPair 4 (some .int), Cond.fieldLink RX2 105 "PunchedTicket$Line" "seat" "[I", Cond.methodLink RX3 276 yX3_firstFreeSeat, Cond.static yX3_firstFreeSeat, Cond.initialized RX3, Cond.code yX3_firstFreeSeat cX3_firstFreeSeat 2 (some .int)]
def wsX3_seatOfUnusedBlank : List Cond := .code yX3_seatOfUnusedBlank cX3_seatOfUnusedBlank 6 (some .int) :: ((wsX3_seatOfUnusedBlank_r1 ++ (wsX3_seatOfUnusedBlank_r2 ++ (wsX3_seatOfUnusedBlank_r3 ++ (wsX3_seatOfUnusedBlank_r4 ++ wsX3_seatOfUnusedBlank_r5)))) ++ wsX30 ++ wsX10 ++ wsX20 ++ wsX00)
def wsX3_seatOfUsedBlank_r1 : List Cond := [Cond.fieldLink RX3 71 "PunchedTicket" "trial" "LPunchedTicket$Trial;", Cond.fieldLink RX3 32 "PunchedTicket" "now" "LPunchedTicket$Moment;", Cond.fieldLink RX3 75 "PunchedTicket" "idleAt" "[I", Cond.fieldLink RX3 141 "PunchedTicket$Moment" "day" "I", Cond.fieldLink RX3 178 "PunchedTicket$Trial" "moment" "LPunchedTicket$Moment;", Cond.fieldLink RX3 147 "PunchedTicket$Trial" "rides" "[I", Cond.fieldLink RX3 101 "PunchedTicket$Moment" "at" "[I", Cond.methodLink RX3 171 yX2_start, Cond.instanceMethod yX2_start, Cond.selects RX2 yX2_start yX2_start, Cond.initialized RX2, Cond.code yX2_start cX2_start 2 none, Cond.fieldLink RX2 24 "PunchedTicket$Trial" "moment" "LPunchedTicket$Moment;", Cond.methodLink RX2 28 yX1_copy, Cond.instanceMethod yX1_copy, Cond.selects RX1 yX1_copy yX1_copy, Cond.initialized RX1, Cond.code yX1_copy cX1_copy 2 none, Cond.fieldLink RX1 9 "PunchedTicket$Moment" "day" "I", Cond.fieldLink RX1 15 "PunchedTicket$Moment" "tickets" "I", Cond.fieldLink RX1 18 "PunchedTicket$Moment" "returns" "I", Cond.fieldLink RX1 21 "PunchedTicket$Moment" "gone" "I", Cond.fieldLink RX1 24 "PunchedTicket$Moment" "at" "[I", Cond.methodLink RX1 44 arraycopyName]
def wsX3_seatOfUsedBlank_r2 : List Cond := [Cond.native arraycopyName, Cond.static arraycopyName, Cond.initialized "java/lang/System", Cond.fieldLink RX1 28 "PunchedTicket$Moment" "forDay" "[I", Cond.fieldLink RX1 31 "PunchedTicket$Moment" "holder" "[I", Cond.methodLink RX3 282 yX2_addBlank, Cond.instanceMethod yX2_addBlank, Cond.selects RX2 yX2_addBlank yX2_addBlank, Cond.code yX2_addBlank cX2_addBlank 6 (some .int), Cond.fieldLink RX2 15 "PunchedTicket$Trial" "line" "LPunchedTicket$Line;", Cond.fieldLink RX2 32 "PunchedTicket$Line" "tickets" "I", Cond.fieldLink RX2 38 "PunchedTicket$Line" "from" "[I", Cond.fieldLink RX2 41 "PunchedTicket$Line" "to" "[I", Cond.fieldLink RX2 44 "PunchedTicket$Moment" "forDay" "[I", Cond.fieldLink RX2 47 "PunchedTicket$Moment" "holder" "[I", Cond.fieldLink RX2 50 "PunchedTicket$Moment" "tickets" "I", Cond.methodLink RX3 150 yX1_passDay, Cond.instanceMethod yX1_passDay, Cond.selects RX1 yX1_passDay yX1_passDay, Cond.code yX1_passDay cX1_passDay 5 (some .int), Cond.fieldLink RX1 34 "PunchedTicket$Moment" "line" "LPunchedTicket$Line;", Cond.fieldLink RX1 65 "PunchedTicket$Line" "people" "I", Cond.methodLink RX1 81 yX1_findRides, Cond.instanceMethod yX1_findRides]
def wsX3_seatOfUsedBlank_r3 : List Cond := [Cond.selects RX1 yX1_findRides yX1_findRides, Cond.code yX1_findRides cX1_findRides 4 none, Cond.methodLink RX1 71 yX0_hasPerson, Cond.instanceMethod yX0_hasPerson, Cond.selects RX0 yX0_hasPerson yX0_hasPerson, Cond.initialized RX0, Cond.code yX0_hasPerson cX0_hasPerson 2 (some .boolean), Cond.fieldLink RX0 9 "PunchedTicket$Line" "people" "I", Cond.methodLink RX1 74 yX1_canTake, Cond.instanceMethod yX1_canTake, Cond.selects RX1 yX1_canTake yX1_canTake, Cond.code yX1_canTake cX1_canTake 5 (some .boolean), Cond.fieldLink RX1 56 "PunchedTicket$Line" "to" "[I", Cond.fieldLink RX1 59 "PunchedTicket$Line" "from" "[I", Cond.fieldLink RX1 78 "PunchedTicket$Line" "kind" "[I", Cond.methodLink RX1 85 yX1_hasTicket, Cond.instanceMethod yX1_hasTicket, Cond.selects RX1 yX1_hasTicket yX1_hasTicket, Cond.code yX1_hasTicket cX1_hasTicket 2 (some .boolean), Cond.methodLink RX1 88 yX1_to, Cond.instanceMethod yX1_to, Cond.selects RX1 yX1_to yX1_to, Cond.code yX1_to cX1_to 2 (some .int), Cond.methodLink RX1 52 yX1_isReturn]
def wsX3_seatOfUsedBlank_r4 : List Cond := [Cond.instanceMethod yX1_isReturn, Cond.selects RX1 yX1_isReturn yX1_isReturn, Cond.code yX1_isReturn cX1_isReturn 2 (some .boolean), Cond.methodLink RX1 91 yX1_useTicket, Cond.instanceMethod yX1_useTicket, Cond.selects RX1 yX1_useTicket yX1_useTicket, Cond.code yX1_useTicket cX1_useTicket 4 none, Cond.methodLink RX3 273 yX2_barredSeats, Cond.instanceMethod yX2_barredSeats, Cond.selects RX2 yX2_barredSeats yX2_barredSeats, Cond.code yX2_barredSeats cX2_barredSeats 5 (some .int), Cond.fieldLink RX2 98 "PunchedTicket$Line" "people" "I", Cond.fieldLink RX2 9 "PunchedTicket$Trial" "rides" "[I", Cond.methodLink RX2 72 yX2_wentTogether, Cond.instanceMethod yX2_wentTogether, Cond.selects RX2 yX2_wentTogether yX2_wentTogether, Cond.code yX2_wentTogether cX2_wentTogether 5 (some .boolean), Cond.methodLink RX2 86 Lib.Math.max.name, Cond.static Lib.Math.max.name, Cond.initialized "java/lang/Math", Cond.code Lib.Math.max.name Lib.Math.max.code 2 (some .int), Cond.methodLink RX2 95 Lib.Math.min.name, Cond.static Lib.Math.min.name, Cond.code Lib.Math.min.name Lib.Math.min.code 2 (some .int)]
def wsX3_seatOfUsedBlank_r5 : List Cond := [Cond.methodLink RX2 79 yX1_hasTicket, Cond.methodLink RX2 83 yX2_lowEnd, Cond.instanceMethod yX2_lowEnd, Cond.selects RX2 yX2_lowEnd yX2_lowEnd, Cond.code yX2_lowEnd cX2_lowEnd 2 (some .int), Cond.methodLink RX2 92 yX2_highEnd, Cond.instanceMethod yX2_highEnd, Cond.selects RX2 yX2_highEnd yX2_highEnd, Cond.code yX2_highEnd cX2_highEnd 2 (some .int), Cond.methodLink RX2 101 yX2_barredByPair, Cond.instanceMethod yX2_barredByPair, Cond.selects RX2 yX2_barredByPair yX2_barredByPair, Cond.code yX2_barredByPair cX2_barredByPair 4 (some .int), Cond.fieldLink RX2 105 "PunchedTicket$Line" "seat" "[I", Cond.methodLink RX3 276 yX3_firstFreeSeat, Cond.static yX3_firstFreeSeat, Cond.initialized RX3, Cond.code yX3_firstFreeSeat cX3_firstFreeSeat 2 (some .int)]
def wsX3_seatOfUsedBlank : List Cond := .code yX3_seatOfUsedBlank cX3_seatOfUsedBlank 8 (some .int) :: ((wsX3_seatOfUsedBlank_r1 ++ (wsX3_seatOfUsedBlank_r2 ++ (wsX3_seatOfUsedBlank_r3 ++ (wsX3_seatOfUsedBlank_r4 ++ wsX3_seatOfUsedBlank_r5)))) ++ wsX30 ++ wsX10 ++ wsX20 ++ wsX00)
def wsX3_firstUsedBlank_r1 : List Cond := [Cond.fieldLink RX3 75 "PunchedTicket" "idleAt" "[I", Cond.methodLink RX3 279 yX3_seatOfUsedBlank, Cond.instanceMethod yX3_seatOfUsedBlank, Cond.selects RX3 yX3_seatOfUsedBlank yX3_seatOfUsedBlank, Cond.initialized RX3, Cond.code yX3_seatOfUsedBlank cX3_seatOfUsedBlank 8 (some .int), Cond.fieldLink RX3 71 "PunchedTicket" "trial" "LPunchedTicket$Trial;", Cond.fieldLink RX3 32 "PunchedTicket" "now" "LPunchedTicket$Moment;", Cond.fieldLink RX3 141 "PunchedTicket$Moment" "day" "I", Cond.fieldLink RX3 178 "PunchedTicket$Trial" "moment" "LPunchedTicket$Moment;", Cond.fieldLink RX3 147 "PunchedTicket$Trial" "rides" "[I", Cond.fieldLink RX3 101 "PunchedTicket$Moment" "at" "[I", Cond.methodLink RX3 171 yX2_start, Cond.instanceMethod yX2_start, Cond.selects RX2 yX2_start yX2_start, Cond.initialized RX2, Cond.code yX2_start cX2_start 2 none, Cond.fieldLink RX2 24 "PunchedTicket$Trial" "moment" "LPunchedTicket$Moment;", Cond.methodLink RX2 28 yX1_copy, Cond.instanceMethod yX1_copy, Cond.selects RX1 yX1_copy yX1_copy, Cond.initialized RX1, Cond.code yX1_copy cX1_copy 2 none, Cond.fieldLink RX1 9 "PunchedTicket$Moment" "day" "I"]
def wsX3_firstUsedBlank_r2 : List Cond := [Cond.fieldLink RX1 15 "PunchedTicket$Moment" "tickets" "I", Cond.fieldLink RX1 18 "PunchedTicket$Moment" "returns" "I", Cond.fieldLink RX1 21 "PunchedTicket$Moment" "gone" "I", Cond.fieldLink RX1 24 "PunchedTicket$Moment" "at" "[I", Cond.methodLink RX1 44 arraycopyName, Cond.native arraycopyName, Cond.static arraycopyName, Cond.initialized "java/lang/System", Cond.fieldLink RX1 28 "PunchedTicket$Moment" "forDay" "[I", Cond.fieldLink RX1 31 "PunchedTicket$Moment" "holder" "[I", Cond.methodLink RX3 282 yX2_addBlank, Cond.instanceMethod yX2_addBlank, Cond.selects RX2 yX2_addBlank yX2_addBlank, Cond.code yX2_addBlank cX2_addBlank 6 (some .int), Cond.fieldLink RX2 15 "PunchedTicket$Trial" "line" "LPunchedTicket$Line;", Cond.fieldLink RX2 32 "PunchedTicket$Line" "tickets" "I", Cond.fieldLink RX2 38 "PunchedTicket$Line" "from" "[I", Cond.fieldLink RX2 41 "PunchedTicket$Line" "to" "[I", Cond.fieldLink RX2 44 "PunchedTicket$Moment" "forDay" "[I", Cond.fieldLink RX2 47 "PunchedTicket$Moment" "holder" "[I", Cond.fieldLink RX2 50 "PunchedTicket$Moment" "tickets" "I", Cond.methodLink RX3 150 yX1_passDay, Cond.instanceMethod yX1_passDay, Cond.selects RX1 yX1_passDay yX1_passDay]
def wsX3_firstUsedBlank_r3 : List Cond := [Cond.code yX1_passDay cX1_passDay 5 (some .int), Cond.fieldLink RX1 34 "PunchedTicket$Moment" "line" "LPunchedTicket$Line;", Cond.fieldLink RX1 65 "PunchedTicket$Line" "people" "I", Cond.methodLink RX1 81 yX1_findRides, Cond.instanceMethod yX1_findRides, Cond.selects RX1 yX1_findRides yX1_findRides, Cond.code yX1_findRides cX1_findRides 4 none, Cond.methodLink RX1 71 yX0_hasPerson, Cond.instanceMethod yX0_hasPerson, Cond.selects RX0 yX0_hasPerson yX0_hasPerson, Cond.initialized RX0, Cond.code yX0_hasPerson cX0_hasPerson 2 (some .boolean), Cond.fieldLink RX0 9 "PunchedTicket$Line" "people" "I", Cond.methodLink RX1 74 yX1_canTake, Cond.instanceMethod yX1_canTake, Cond.selects RX1 yX1_canTake yX1_canTake, Cond.code yX1_canTake cX1_canTake 5 (some .boolean), Cond.fieldLink RX1 56 "PunchedTicket$Line" "to" "[I", Cond.fieldLink RX1 59 "PunchedTicket$Line" "from" "[I", Cond.fieldLink RX1 78 "PunchedTicket$Line" "kind" "[I", Cond.methodLink RX1 85 yX1_hasTicket, Cond.instanceMethod yX1_hasTicket, Cond.selects RX1 yX1_hasTicket yX1_hasTicket, Cond.code yX1_hasTicket cX1_hasTicket 2 (some .boolean)]
def wsX3_firstUsedBlank_r4 : List Cond := [Cond.methodLink RX1 88 yX1_to, Cond.instanceMethod yX1_to, Cond.selects RX1 yX1_to yX1_to, Cond.code yX1_to cX1_to 2 (some .int), Cond.methodLink RX1 52 yX1_isReturn, Cond.instanceMethod yX1_isReturn, Cond.selects RX1 yX1_isReturn yX1_isReturn, Cond.code yX1_isReturn cX1_isReturn 2 (some .boolean), Cond.methodLink RX1 91 yX1_useTicket, Cond.instanceMethod yX1_useTicket, Cond.selects RX1 yX1_useTicket yX1_useTicket, Cond.code yX1_useTicket cX1_useTicket 4 none, Cond.methodLink RX3 273 yX2_barredSeats, Cond.instanceMethod yX2_barredSeats, Cond.selects RX2 yX2_barredSeats yX2_barredSeats, Cond.code yX2_barredSeats cX2_barredSeats 5 (some .int), Cond.fieldLink RX2 98 "PunchedTicket$Line" "people" "I", Cond.fieldLink RX2 9 "PunchedTicket$Trial" "rides" "[I", Cond.methodLink RX2 72 yX2_wentTogether, Cond.instanceMethod yX2_wentTogether, Cond.selects RX2 yX2_wentTogether yX2_wentTogether, Cond.code yX2_wentTogether cX2_wentTogether 5 (some .boolean), Cond.methodLink RX2 86 Lib.Math.max.name, Cond.static Lib.Math.max.name]
def wsX3_firstUsedBlank_r5 : List Cond := [Cond.initialized "java/lang/Math", Cond.code Lib.Math.max.name Lib.Math.max.code 2 (some .int), Cond.methodLink RX2 95 Lib.Math.min.name, Cond.static Lib.Math.min.name, Cond.code Lib.Math.min.name Lib.Math.min.code 2 (some .int), Cond.methodLink RX2 79 yX1_hasTicket, Cond.methodLink RX2 83 yX2_lowEnd, Cond.instanceMethod yX2_lowEnd, Cond.selects RX2 yX2_lowEnd yX2_lowEnd, Cond.code yX2_lowEnd cX2_lowEnd 2 (some .int), Cond.methodLink RX2 92 yX2_highEnd, Cond.instanceMethod yX2_highEnd, Cond.selects RX2 yX2_highEnd yX2_highEnd, Cond.code yX2_highEnd cX2_highEnd 2 (some .int), Cond.methodLink RX2 101 yX2_barredByPair, Cond.instanceMethod yX2_barredByPair, Cond.selects RX2 yX2_barredByPair yX2_barredByPair, Cond.code yX2_barredByPair cX2_barredByPair 4 (some .int), Cond.fieldLink RX2 105 "PunchedTicket$Line" "seat" "[I", Cond.methodLink RX3 276 yX3_firstFreeSeat, Cond.static yX3_firstFreeSeat, Cond.code yX3_firstFreeSeat cX3_firstFreeSeat 2 (some .int)]
def wsX3_firstUsedBlank : List Cond := .code yX3_firstUsedBlank cX3_firstUsedBlank 6 (some .int) :: ((wsX3_firstUsedBlank_r1 ++ (wsX3_firstUsedBlank_r2 ++ (wsX3_firstUsedBlank_r3 ++ (wsX3_firstUsedBlank_r4 ++ wsX3_firstUsedBlank_r5)))) ++ wsX30 ++ wsX10 ++ wsX20 ++ wsX00)
def wsX3_firstUnusedBlank : List Cond := .code yX3_firstUnusedBlank cX3_firstUnusedBlank 3 (some .int) :: ([])
def wsX3_blank_r1 : List Cond := [Cond.fieldLink RX3 20 "PunchedTicket" "told" "LPunchedTicket$Line;", Cond.fieldLink RX3 107 "PunchedTicket$Line" "kind" "[I", Cond.fieldLink RX3 75 "PunchedTicket" "idleAt" "[I", Cond.methodLink RX3 97 yX0_hasPerson, Cond.instanceMethod yX0_hasPerson, Cond.selects RX0 yX0_hasPerson yX0_hasPerson, Cond.initialized RX0, Cond.code yX0_hasPerson cX0_hasPerson 2 (some .boolean), Cond.fieldLink RX0 9 "PunchedTicket$Line" "people" "I", Cond.methodLink RX3 229 yX3_isStop, Cond.static yX3_isStop, Cond.initialized RX3, Cond.code yX3_isStop cX3_isStop 1 (some .boolean), Cond.methodLink RX3 232 yX3_seatOfUnusedBlank, Cond.instanceMethod yX3_seatOfUnusedBlank, Cond.selects RX3 yX3_seatOfUnusedBlank yX3_seatOfUnusedBlank, Cond.code yX3_seatOfUnusedBlank cX3_seatOfUnusedBlank 6 (some .int), Cond.fieldLink RX3 71 "PunchedTicket" "trial" "LPunchedTicket$Trial;", Cond.fieldLink RX3 32 "PunchedTicket" "now" "LPunchedTicket$Moment;", Cond.fieldLink RX3 141 "PunchedTicket$Moment" "day" "I", Cond.fieldLink RX3 178 "PunchedTicket$Trial" "moment" "LPunchedTicket$Moment;", Cond.fieldLink RX3 101 "PunchedTicket$Moment" "at" "[I", Cond.fieldLink RX3 147 "PunchedTicket$Trial" "rides" "[I", Cond.methodLink RX3 171 yX2_start]
def wsX3_blank_r2 : List Cond := [Cond.instanceMethod yX2_start, Cond.selects RX2 yX2_start yX2_start, Cond.initialized RX2, Cond.code yX2_start cX2_start 2 none, Cond.fieldLink RX2 24 "PunchedTicket$Trial" "moment" "LPunchedTicket$Moment;", Cond.methodLink RX2 28 yX1_copy, Cond.instanceMethod yX1_copy, Cond.selects RX1 yX1_copy yX1_copy, Cond.initialized RX1, Cond.code yX1_copy cX1_copy 2 none, Cond.fieldLink RX1 9 "PunchedTicket$Moment" "day" "I", Cond.fieldLink RX1 15 "PunchedTicket$Moment" "tickets" "I", Cond.fieldLink RX1 18 "PunchedTicket$Moment" "returns" "I", Cond.fieldLink RX1 21 "PunchedTicket$Moment" "gone" "I", Cond.fieldLink RX1 24 "PunchedTicket$Moment" "at" "[I", Cond.methodLink RX1 44 arraycopyName, Cond.native arraycopyName, Cond.static arraycopyName, Cond.initialized "java/lang/System", Cond.fieldLink RX1 28 "PunchedTicket$Moment" "forDay" "[I", Cond.fieldLink RX1 31 "PunchedTicket$Moment" "holder" "[I", Cond.methodLink RX3 150 yX1_passDay, Cond.instanceMethod yX1_passDay, Cond.selects RX1 yX1_passDay yX1_passDay]
def wsX3_blank_r3 : List Cond := [Cond.code yX1_passDay cX1_passDay 5 (some .int), Cond.fieldLink RX1 34 "PunchedTicket$Moment" "line" "LPunchedTicket$Line;", Cond.fieldLink RX1 65 "PunchedTicket$Line" "people" "I", Cond.methodLink RX1 81 yX1_findRides, Cond.instanceMethod yX1_findRides, Cond.selects RX1 yX1_findRides yX1_findRides, Cond.code yX1_findRides cX1_findRides 4 none, Cond.methodLink RX1 71 yX0_hasPerson, Cond.methodLink RX1 74 yX1_canTake, Cond.instanceMethod yX1_canTake, Cond.selects RX1 yX1_canTake yX1_canTake, Cond.code yX1_canTake cX1_canTake 5 (some .boolean), Cond.fieldLink RX1 56 "PunchedTicket$Line" "to" "[I", Cond.fieldLink RX1 59 "PunchedTicket$Line" "from" "[I", Cond.fieldLink RX1 78 "PunchedTicket$Line" "kind" "[I", Cond.methodLink RX1 85 yX1_hasTicket, Cond.instanceMethod yX1_hasTicket, Cond.selects RX1 yX1_hasTicket yX1_hasTicket, Cond.code yX1_hasTicket cX1_hasTicket 2 (some .boolean), Cond.methodLink RX1 88 yX1_to, Cond.instanceMethod yX1_to, Cond.selects RX1 yX1_to yX1_to, Cond.code yX1_to cX1_to 2 (some .int), Cond.methodLink RX1 52 yX1_isReturn]
def wsX3_blank_r4 : List Cond := [Cond.instanceMethod yX1_isReturn, Cond.selects RX1 yX1_isReturn yX1_isReturn, Cond.code yX1_isReturn cX1_isReturn 2 (some .boolean), Cond.methodLink RX1 91 yX1_useTicket, Cond.instanceMethod yX1_useTicket, Cond.selects RX1 yX1_useTicket yX1_useTicket, Cond.code yX1_useTicket cX1_useTicket 4 none, Cond.methodLink RX3 273 yX2_barredSeats, Cond.instanceMethod yX2_barredSeats, Cond.selects RX2 yX2_barredSeats yX2_barredSeats, Cond.code yX2_barredSeats cX2_barredSeats 5 (some .int), Cond.fieldLink RX2 15 "PunchedTicket$Trial" "line" "LPunchedTicket$Line;", Cond.fieldLink RX2 98 "PunchedTicket$Line" "people" "I", Cond.fieldLink RX2 9 "PunchedTicket$Trial" "rides" "[I", Cond.methodLink RX2 72 yX2_wentTogether, Cond.instanceMethod yX2_wentTogether, Cond.selects RX2 yX2_wentTogether yX2_wentTogether, Cond.code yX2_wentTogether cX2_wentTogether 5 (some .boolean), Cond.methodLink RX2 86 Lib.Math.max.name, Cond.static Lib.Math.max.name, Cond.initialized "java/lang/Math", Cond.code Lib.Math.max.name Lib.Math.max.code 2 (some .int), Cond.methodLink RX2 95 Lib.Math.min.name, Cond.static Lib.Math.min.name]
def wsX3_blank_r5 : List Cond := [Cond.code Lib.Math.min.name Lib.Math.min.code 2 (some .int), Cond.methodLink RX2 79 yX1_hasTicket, Cond.methodLink RX2 83 yX2_lowEnd, Cond.instanceMethod yX2_lowEnd, Cond.selects RX2 yX2_lowEnd yX2_lowEnd, Cond.code yX2_lowEnd cX2_lowEnd 2 (some .int), Cond.fieldLink RX2 38 "PunchedTicket$Line" "from" "[I", Cond.fieldLink RX2 41 "PunchedTicket$Line" "to" "[I", Cond.methodLink RX2 92 yX2_highEnd, Cond.instanceMethod yX2_highEnd, Cond.selects RX2 yX2_highEnd yX2_highEnd, Cond.code yX2_highEnd cX2_highEnd 2 (some .int), Cond.methodLink RX2 101 yX2_barredByPair, Cond.instanceMethod yX2_barredByPair, Cond.selects RX2 yX2_barredByPair yX2_barredByPair, Cond.code yX2_barredByPair cX2_barredByPair 4 (some .int), Cond.fieldLink RX2 105 "PunchedTicket$Line" "seat" "[I", Cond.methodLink RX3 276 yX3_firstFreeSeat, Cond.static yX3_firstFreeSeat, Cond.code yX3_firstFreeSeat cX3_firstFreeSeat 2 (some .int), Cond.methodLink RX3 235 yX3_firstUsedBlank, Cond.instanceMethod yX3_firstUsedBlank, Cond.selects RX3 yX3_firstUsedBlank yX3_firstUsedBlank, Cond.code yX3_firstUsedBlank cX3_firstUsedBlank 6 (some .int)]
def wsX3_blank_r6 : List Cond := [Cond.methodLink RX3 279 yX3_seatOfUsedBlank, Cond.instanceMethod yX3_seatOfUsedBlank, Cond.selects RX3 yX3_seatOfUsedBlank yX3_seatOfUsedBlank, Cond.code yX3_seatOfUsedBlank cX3_seatOfUsedBlank 8 (some .int), Cond.methodLink RX3 282 yX2_addBlank, Cond.instanceMethod yX2_addBlank, Cond.selects RX2 yX2_addBlank yX2_addBlank, Cond.code yX2_addBlank cX2_addBlank 6 (some .int), Cond.fieldLink RX2 32 "PunchedTicket$Line" "tickets" "I", Cond.fieldLink RX2 44 "PunchedTicket$Moment" "forDay" "[I", Cond.fieldLink RX2 47 "PunchedTicket$Moment" "holder" "[I", Cond.fieldLink RX2 50 "PunchedTicket$Moment" "tickets" "I", Cond.methodLink RX3 239 yX3_firstUnusedBlank, Cond.static yX3_firstUnusedBlank, Cond.code yX3_firstUnusedBlank cX3_firstUnusedBlank 3 (some .int)]
def wsX3_blank : List Cond := .code yX3_blank cX3_blank 7 (some .int) :: ((wsX3_blank_r1 ++ (wsX3_blank_r2 ++ (wsX3_blank_r3 ++ (wsX3_blank_r4 ++ (wsX3_blank_r5 ++ wsX3_blank_r6))))) ++ wsX30 ++ wsX00 ++ wsX10 ++ wsX20)
def wsX3_see : List Cond := .code yX3_see cX3_see 4 (some .int) :: ([.fieldLink RX3 20 "PunchedTicket" "told" "LPunchedTicket$Line;", .fieldLink RX3 61 "PunchedTicket" "seenCount" "I", .fieldLink RX3 52 "PunchedTicket" "seenPerson" "[I", .fieldLink RX3 55 "PunchedTicket" "seenStop" "[I", .fieldLink RX3 58 "PunchedTicket" "seenDay" "[I", .methodLink RX3 97 yX0_hasPerson, .instanceMethod yX0_hasPerson, .selects RX0 yX0_hasPerson yX0_hasPerson, .initialized RX0, .code yX0_hasPerson cX0_hasPerson 2 (some .boolean), .fieldLink RX0 9 "PunchedTicket$Line" "people" "I", .methodLink RX3 229 yX3_isStop, .static yX3_isStop, .initialized RX3, .code yX3_isStop cX3_isStop 1 (some .boolean)] ++ wsX30 ++ wsX00)
def wsX3_unsee : List Cond := .code yX3_unsee cX3_unsee 2 (some .int) :: ([.fieldLink RX3 61 "PunchedTicket" "seenCount" "I"] ++ wsX30)
def wsX3_seenIsSoOn : List Cond := .code yX3_seenIsSoOn cX3_seenIsSoOn 4 (some .boolean) :: ([.fieldLink RX3 61 "PunchedTicket" "seenCount" "I", .fieldLink RX3 52 "PunchedTicket" "seenPerson" "[I", .fieldLink RX3 58 "PunchedTicket" "seenDay" "[I", .fieldLink RX3 20 "PunchedTicket" "told" "LPunchedTicket$Line;", .fieldLink RX3 71 "PunchedTicket" "trial" "LPunchedTicket$Trial;", .fieldLink RX3 178 "PunchedTicket$Trial" "moment" "LPunchedTicket$Moment;", .fieldLink RX3 101 "PunchedTicket$Moment" "at" "[I", .fieldLink RX3 55 "PunchedTicket" "seenStop" "[I", .methodLink RX3 97 yX0_hasPerson, .instanceMethod yX0_hasPerson, .selects RX0 yX0_hasPerson yX0_hasPerson, .initialized RX0, .code yX0_hasPerson cX0_hasPerson 2 (some .boolean), .fieldLink RX0 9 "PunchedTicket$Line" "people" "I"] ++ wsX30 ++ wsX20 ++ wsX10 ++ wsX00)
def wsX3_trialMakesSeenSo_r1 : List Cond := [Cond.fieldLink RX3 32 "PunchedTicket" "now" "LPunchedTicket$Moment;", Cond.fieldLink RX3 141 "PunchedTicket$Moment" "day" "I", Cond.fieldLink RX3 71 "PunchedTicket" "trial" "LPunchedTicket$Trial;", Cond.fieldLink RX3 178 "PunchedTicket$Trial" "moment" "LPunchedTicket$Moment;", Cond.fieldLink RX3 147 "PunchedTicket$Trial" "rides" "[I", Cond.methodLink RX3 285 yX3_seenIsSoOn, Cond.instanceMethod yX3_seenIsSoOn, Cond.selects RX3 yX3_seenIsSoOn yX3_seenIsSoOn, Cond.initialized RX3, Cond.code yX3_seenIsSoOn cX3_seenIsSoOn 4 (some .boolean), Cond.fieldLink RX3 61 "PunchedTicket" "seenCount" "I", Cond.fieldLink RX3 52 "PunchedTicket" "seenPerson" "[I", Cond.fieldLink RX3 58 "PunchedTicket" "seenDay" "[I", Cond.fieldLink RX3 20 "PunchedTicket" "told" "LPunchedTicket$Line;", Cond.fieldLink RX3 101 "PunchedTicket$Moment" "at" "[I", Cond.fieldLink RX3 55 "PunchedTicket" "seenStop" "[I", Cond.methodLink RX3 97 yX0_hasPerson, Cond.instanceMethod yX0_hasPerson, Cond.selects RX0 yX0_hasPerson yX0_hasPerson, Cond.initialized RX0, Cond.code yX0_hasPerson cX0_hasPerson 2 (some .boolean), Cond.fieldLink RX0 9 "PunchedTicket$Line" "people" "I", Cond.methodLink RX3 150 yX1_passDay, Cond.instanceMethod yX1_passDay]
def wsX3_trialMakesSeenSo_r2 : List Cond := [Cond.selects RX1 yX1_passDay yX1_passDay, Cond.initialized RX1, Cond.code yX1_passDay cX1_passDay 5 (some .int), Cond.fieldLink RX1 34 "PunchedTicket$Moment" "line" "LPunchedTicket$Line;", Cond.fieldLink RX1 65 "PunchedTicket$Line" "people" "I", Cond.fieldLink RX1 24 "PunchedTicket$Moment" "at" "[I", Cond.fieldLink RX1 9 "PunchedTicket$Moment" "day" "I", Cond.methodLink RX1 81 yX1_findRides, Cond.instanceMethod yX1_findRides, Cond.selects RX1 yX1_findRides yX1_findRides, Cond.code yX1_findRides cX1_findRides 4 none, Cond.fieldLink RX1 15 "PunchedTicket$Moment" "tickets" "I", Cond.fieldLink RX1 31 "PunchedTicket$Moment" "holder" "[I", Cond.fieldLink RX1 28 "PunchedTicket$Moment" "forDay" "[I", Cond.methodLink RX1 71 yX0_hasPerson, Cond.methodLink RX1 74 yX1_canTake, Cond.instanceMethod yX1_canTake, Cond.selects RX1 yX1_canTake yX1_canTake, Cond.code yX1_canTake cX1_canTake 5 (some .boolean), Cond.fieldLink RX1 18 "PunchedTicket$Moment" "returns" "I", Cond.fieldLink RX1 56 "PunchedTicket$Line" "to" "[I", Cond.fieldLink RX1 59 "PunchedTicket$Line" "from" "[I", Cond.fieldLink RX1 21 "PunchedTicket$Moment" "gone" "I", Cond.fieldLink RX1 78 "PunchedTicket$Line" "kind" "[I"]
def wsX3_trialMakesSeenSo_r3 : List Cond := [Cond.methodLink RX1 85 yX1_hasTicket, Cond.instanceMethod yX1_hasTicket, Cond.selects RX1 yX1_hasTicket yX1_hasTicket, Cond.code yX1_hasTicket cX1_hasTicket 2 (some .boolean), Cond.methodLink RX1 88 yX1_to, Cond.instanceMethod yX1_to, Cond.selects RX1 yX1_to yX1_to, Cond.code yX1_to cX1_to 2 (some .int), Cond.methodLink RX1 52 yX1_isReturn, Cond.instanceMethod yX1_isReturn, Cond.selects RX1 yX1_isReturn yX1_isReturn, Cond.code yX1_isReturn cX1_isReturn 2 (some .boolean), Cond.methodLink RX1 91 yX1_useTicket, Cond.instanceMethod yX1_useTicket, Cond.selects RX1 yX1_useTicket yX1_useTicket, Cond.code yX1_useTicket cX1_useTicket 4 none]
def wsX3_trialMakesSeenSo : List Cond := .code yX3_trialMakesSeenSo cX3_trialMakesSeenSo 2 (some .boolean) :: ((wsX3_trialMakesSeenSo_r1 ++ (wsX3_trialMakesSeenSo_r2 ++ wsX3_trialMakesSeenSo_r3)) ++ wsX30 ++ wsX10 ++ wsX20 ++ wsX00)
def wsX3_held_r1 : List Cond := [Cond.fieldLink RX3 32 "PunchedTicket" "now" "LPunchedTicket$Moment;", Cond.fieldLink RX3 20 "PunchedTicket" "told" "LPunchedTicket$Line;", Cond.fieldLink RX3 91 "PunchedTicket$Line" "people" "I", Cond.fieldLink RX3 71 "PunchedTicket" "trial" "LPunchedTicket$Trial;", Cond.fieldLink RX3 178 "PunchedTicket$Trial" "moment" "LPunchedTicket$Moment;", Cond.fieldLink RX3 132 "PunchedTicket$Moment" "holder" "[I", Cond.methodLink RX3 117 yX1_hasTicket, Cond.instanceMethod yX1_hasTicket, Cond.selects RX1 yX1_hasTicket yX1_hasTicket, Cond.initialized RX1, Cond.code yX1_hasTicket cX1_hasTicket 2 (some .boolean), Cond.fieldLink RX1 15 "PunchedTicket$Moment" "tickets" "I", Cond.methodLink RX3 138 yX1_isGone, Cond.instanceMethod yX1_isGone, Cond.selects RX1 yX1_isGone yX1_isGone, Cond.code yX1_isGone cX1_isGone 2 (some .boolean), Cond.fieldLink RX1 21 "PunchedTicket$Moment" "gone" "I", Cond.methodLink RX3 171 yX2_start, Cond.instanceMethod yX2_start, Cond.selects RX2 yX2_start yX2_start, Cond.initialized RX2, Cond.code yX2_start cX2_start 2 none, Cond.fieldLink RX2 24 "PunchedTicket$Trial" "moment" "LPunchedTicket$Moment;", Cond.methodLink RX2 28 yX1_copy]
def wsX3_held_r2 : List Cond := [Cond.instanceMethod yX1_copy, Cond.selects RX1 yX1_copy yX1_copy, Cond.code yX1_copy cX1_copy 2 none, Cond.fieldLink RX1 9 "PunchedTicket$Moment" "day" "I", Cond.fieldLink RX1 18 "PunchedTicket$Moment" "returns" "I", Cond.fieldLink RX1 24 "PunchedTicket$Moment" "at" "[I", Cond.methodLink RX1 44 arraycopyName, Cond.native arraycopyName, Cond.static arraycopyName, Cond.initialized "java/lang/System", Cond.fieldLink RX1 28 "PunchedTicket$Moment" "forDay" "[I", Cond.fieldLink RX1 31 "PunchedTicket$Moment" "holder" "[I", Cond.methodLink RX3 242 yX3_trialMakesSeenSo, Cond.instanceMethod yX3_trialMakesSeenSo, Cond.selects RX3 yX3_trialMakesSeenSo yX3_trialMakesSeenSo, Cond.initialized RX3, Cond.code yX3_trialMakesSeenSo cX3_trialMakesSeenSo 2 (some .boolean), Cond.fieldLink RX3 141 "PunchedTicket$Moment" "day" "I", Cond.fieldLink RX3 147 "PunchedTicket$Trial" "rides" "[I", Cond.methodLink RX3 285 yX3_seenIsSoOn, Cond.instanceMethod yX3_seenIsSoOn, Cond.selects RX3 yX3_seenIsSoOn yX3_seenIsSoOn, Cond.code yX3_seenIsSoOn cX3_seenIsSoOn 4 (some .boolean), Cond.fieldLink RX3 61 "PunchedTicket" "seenCount" "I"]
def wsX3_held_r3 : List Cond := [Cond.fieldLink RX3 52 "PunchedTicket" "seenPerson" "[I", Cond.fieldLink RX3 58 "PunchedTicket" "seenDay" "[I", Cond.fieldLink RX3 101 "PunchedTicket$Moment" "at" "[I", Cond.fieldLink RX3 55 "PunchedTicket" "seenStop" "[I", Cond.methodLink RX3 97 yX0_hasPerson, Cond.instanceMethod yX0_hasPerson, Cond.selects RX0 yX0_hasPerson yX0_hasPerson, Cond.initialized RX0, Cond.code yX0_hasPerson cX0_hasPerson 2 (some .boolean), Cond.fieldLink RX0 9 "PunchedTicket$Line" "people" "I", Cond.methodLink RX3 150 yX1_passDay, Cond.instanceMethod yX1_passDay, Cond.selects RX1 yX1_passDay yX1_passDay, Cond.code yX1_passDay cX1_passDay 5 (some .int), Cond.fieldLink RX1 34 "PunchedTicket$Moment" "line" "LPunchedTicket$Line;", Cond.fieldLink RX1 65 "PunchedTicket$Line" "people" "I", Cond.methodLink RX1 81 yX1_findRides, Cond.instanceMethod yX1_findRides, Cond.selects RX1 yX1_findRides yX1_findRides, Cond.code yX1_findRides cX1_findRides 4 none, Cond.methodLink RX1 71 yX0_hasPerson, Cond.methodLink RX1 74 yX1_canTake, Cond.instanceMethod yX1_canTake, Cond.selects RX1 yX1_canTake yX1_canTake]
def wsX3_held_r4 : List Cond := [Cond.code yX1_canTake cX1_canTake 5 (some .boolean), Cond.fieldLink RX1 56 "PunchedTicket$Line" "to" "[I", Cond.fieldLink RX1 59 "PunchedTicket$Line" "from" "[I", Cond.fieldLink RX1 78 "PunchedTicket$Line" "kind" "[I", Cond.methodLink RX1 85 yX1_hasTicket, Cond.methodLink RX1 88 yX1_to, Cond.instanceMethod yX1_to, Cond.selects RX1 yX1_to yX1_to, Cond.code yX1_to cX1_to 2 (some .int), Cond.methodLink RX1 52 yX1_isReturn, Cond.instanceMethod yX1_isReturn, Cond.selects RX1 yX1_isReturn yX1_isReturn, Cond.code yX1_isReturn cX1_isReturn 2 (some .boolean), Cond.methodLink RX1 91 yX1_useTicket, Cond.instanceMethod yX1_useTicket, Cond.selects RX1 yX1_useTicket yX1_useTicket, Cond.code yX1_useTicket cX1_useTicket 4 none]
def wsX3_held : List Cond := .code yX3_held cX3_held 4 (some .int) :: ((wsX3_held_r1 ++ (wsX3_held_r2 ++ (wsX3_held_r3 ++ wsX3_held_r4))) ++ wsX30 ++ wsX00 ++ wsX20 ++ wsX10)
def wsX3_power : List Cond := .code yX3_power cX3_power 4 (some .int) :: ([])
def wsX3_endsAtAfterLosing_r1 : List Cond := [Cond.fieldLink RX3 71 "PunchedTicket" "trial" "LPunchedTicket$Trial;", Cond.fieldLink RX3 32 "PunchedTicket" "now" "LPunchedTicket$Moment;", Cond.fieldLink RX3 178 "PunchedTicket$Trial" "moment" "LPunchedTicket$Moment;", Cond.fieldLink RX3 158 "PunchedTicket$Moment" "gone" "I", Cond.fieldLink RX3 101 "PunchedTicket$Moment" "at" "[I", Cond.methodLink RX3 171 yX2_start, Cond.instanceMethod yX2_start, Cond.selects RX2 yX2_start yX2_start, Cond.initialized RX2, Cond.code yX2_start cX2_start 2 none, Cond.fieldLink RX2 24 "PunchedTicket$Trial" "moment" "LPunchedTicket$Moment;", Cond.methodLink RX2 28 yX1_copy, Cond.instanceMethod yX1_copy, Cond.selects RX1 yX1_copy yX1_copy, Cond.initialized RX1, Cond.code yX1_copy cX1_copy 2 none, Cond.fieldLink RX1 9 "PunchedTicket$Moment" "day" "I", Cond.fieldLink RX1 15 "PunchedTicket$Moment" "tickets" "I", Cond.fieldLink RX1 18 "PunchedTicket$Moment" "returns" "I", Cond.fieldLink RX1 21 "PunchedTicket$Moment" "gone" "I", Cond.fieldLink RX1 24 "PunchedTicket$Moment" "at" "[I", Cond.methodLink RX1 44 arraycopyName, Cond.native arraycopyName, Cond.static arraycopyName]
def wsX3_endsAtAfterLosing_r2 : List Cond := [Cond.initialized "java/lang/System", Cond.fieldLink RX1 28 "PunchedTicket$Moment" "forDay" "[I", Cond.fieldLink RX1 31 "PunchedTicket$Moment" "holder" "[I", Cond.methodLink RX3 174 yX2_passDaysTo, Cond.instanceMethod yX2_passDaysTo, Cond.selects RX2 yX2_passDaysTo yX2_passDaysTo, Cond.code yX2_passDaysTo cX2_passDaysTo 3 none, Cond.fieldLink RX2 51 "PunchedTicket$Moment" "day" "I", Cond.fieldLink RX2 9 "PunchedTicket$Trial" "rides" "[I", Cond.methodLink RX2 54 yX1_passDay, Cond.instanceMethod yX1_passDay, Cond.selects RX1 yX1_passDay yX1_passDay, Cond.code yX1_passDay cX1_passDay 5 (some .int), Cond.fieldLink RX1 34 "PunchedTicket$Moment" "line" "LPunchedTicket$Line;", Cond.fieldLink RX1 65 "PunchedTicket$Line" "people" "I", Cond.methodLink RX1 81 yX1_findRides, Cond.instanceMethod yX1_findRides, Cond.selects RX1 yX1_findRides yX1_findRides, Cond.code yX1_findRides cX1_findRides 4 none, Cond.methodLink RX1 71 yX0_hasPerson, Cond.instanceMethod yX0_hasPerson, Cond.selects RX0 yX0_hasPerson yX0_hasPerson, Cond.initialized RX0, Cond.code yX0_hasPerson cX0_hasPerson 2 (some .boolean)]
def wsX3_endsAtAfterLosing_r3 : List Cond := [Cond.fieldLink RX0 9 "PunchedTicket$Line" "people" "I", Cond.methodLink RX1 74 yX1_canTake, Cond.instanceMethod yX1_canTake, Cond.selects RX1 yX1_canTake yX1_canTake, Cond.code yX1_canTake cX1_canTake 5 (some .boolean), Cond.fieldLink RX1 56 "PunchedTicket$Line" "to" "[I", Cond.fieldLink RX1 59 "PunchedTicket$Line" "from" "[I", Cond.fieldLink RX1 78 "PunchedTicket$Line" "kind" "[I", Cond.methodLink RX1 85 yX1_hasTicket, Cond.instanceMethod yX1_hasTicket, Cond.selects RX1 yX1_hasTicket yX1_hasTicket, Cond.code yX1_hasTicket cX1_hasTicket 2 (some .boolean), Cond.methodLink RX1 88 yX1_to, Cond.instanceMethod yX1_to, Cond.selects RX1 yX1_to yX1_to, Cond.code yX1_to cX1_to 2 (some .int), Cond.methodLink RX1 52 yX1_isReturn, Cond.instanceMethod yX1_isReturn, Cond.selects RX1 yX1_isReturn yX1_isReturn, Cond.code yX1_isReturn cX1_isReturn 2 (some .boolean), Cond.methodLink RX1 91 yX1_useTicket, Cond.instanceMethod yX1_useTicket, Cond.selects RX1 yX1_useTicket yX1_useTicket, Cond.code yX1_useTicket cX1_useTicket 4 none]
def wsX3_endsAtAfterLosing : List Cond := .code yX3_endsAtAfterLosing cX3_endsAtAfterLosing 4 (some .boolean) :: ((wsX3_endsAtAfterLosing_r1 ++ (wsX3_endsAtAfterLosing_r2 ++ wsX3_endsAtAfterLosing_r3)) ++ wsX30 ++ wsX20 ++ wsX10 ++ wsX00)
def wsX3_losses_r1 : List Cond := [Cond.fieldLink RX3 20 "PunchedTicket" "told" "LPunchedTicket$Line;", Cond.fieldLink RX3 32 "PunchedTicket" "now" "LPunchedTicket$Moment;", Cond.methodLink RX3 97 yX0_hasPerson, Cond.instanceMethod yX0_hasPerson, Cond.selects RX0 yX0_hasPerson yX0_hasPerson, Cond.initialized RX0, Cond.code yX0_hasPerson cX0_hasPerson 2 (some .boolean), Cond.fieldLink RX0 9 "PunchedTicket$Line" "people" "I", Cond.methodLink RX3 229 yX3_isStop, Cond.static yX3_isStop, Cond.initialized RX3, Cond.code yX3_isStop cX3_isStop 1 (some .boolean), Cond.methodLink RX3 215 yX1_notGone, Cond.instanceMethod yX1_notGone, Cond.selects RX1 yX1_notGone yX1_notGone, Cond.initialized RX1, Cond.code yX1_notGone cX1_notGone 1 (some .int), Cond.fieldLink RX1 21 "PunchedTicket$Moment" "gone" "I", Cond.fieldLink RX1 15 "PunchedTicket$Moment" "tickets" "I", Cond.methodLink RX3 218 yJ6_bitCount_0f7a4, Cond.static yJ6_bitCount_0f7a4, Cond.initialized RJ6, Cond.code yJ6_bitCount_0f7a4 cJ6_bitCount_0f7a4 1 (some .int), Cond.constant RJ6 265 (1431655765)]
def wsX3_losses_r2 : List Cond := [Cond.constant RJ6 266 (858993459), Cond.constant RJ6 267 (252645135), Cond.methodLink RX3 246 yX3_power, Cond.static yX3_power, Cond.code yX3_power cX3_power 4 (some .int), Cond.methodLink RX3 249 yX3_endsAtAfterLosing, Cond.instanceMethod yX3_endsAtAfterLosing, Cond.selects RX3 yX3_endsAtAfterLosing yX3_endsAtAfterLosing, Cond.code yX3_endsAtAfterLosing cX3_endsAtAfterLosing 4 (some .boolean), Cond.fieldLink RX3 71 "PunchedTicket" "trial" "LPunchedTicket$Trial;", Cond.fieldLink RX3 178 "PunchedTicket$Trial" "moment" "LPunchedTicket$Moment;", Cond.fieldLink RX3 158 "PunchedTicket$Moment" "gone" "I", Cond.fieldLink RX3 101 "PunchedTicket$Moment" "at" "[I", Cond.methodLink RX3 171 yX2_start, Cond.instanceMethod yX2_start, Cond.selects RX2 yX2_start yX2_start, Cond.initialized RX2, Cond.code yX2_start cX2_start 2 none, Cond.fieldLink RX2 24 "PunchedTicket$Trial" "moment" "LPunchedTicket$Moment;", Cond.methodLink RX2 28 yX1_copy, Cond.instanceMethod yX1_copy, Cond.selects RX1 yX1_copy yX1_copy, Cond.code yX1_copy cX1_copy 2 none, Cond.fieldLink RX1 9 "PunchedTicket$Moment" "day" "I"]
def wsX3_losses_r3 : List Cond := [Cond.fieldLink RX1 18 "PunchedTicket$Moment" "returns" "I", Cond.fieldLink RX1 24 "PunchedTicket$Moment" "at" "[I", Cond.methodLink RX1 44 arraycopyName, Cond.native arraycopyName, Cond.static arraycopyName, Cond.initialized "java/lang/System", Cond.fieldLink RX1 28 "PunchedTicket$Moment" "forDay" "[I", Cond.fieldLink RX1 31 "PunchedTicket$Moment" "holder" "[I", Cond.methodLink RX3 174 yX2_passDaysTo, Cond.instanceMethod yX2_passDaysTo, Cond.selects RX2 yX2_passDaysTo yX2_passDaysTo, Cond.code yX2_passDaysTo cX2_passDaysTo 3 none, Cond.fieldLink RX2 51 "PunchedTicket$Moment" "day" "I", Cond.fieldLink RX2 9 "PunchedTicket$Trial" "rides" "[I", Cond.methodLink RX2 54 yX1_passDay, Cond.instanceMethod yX1_passDay, Cond.selects RX1 yX1_passDay yX1_passDay, Cond.code yX1_passDay cX1_passDay 5 (some .int), Cond.fieldLink RX1 34 "PunchedTicket$Moment" "line" "LPunchedTicket$Line;", Cond.fieldLink RX1 65 "PunchedTicket$Line" "people" "I", Cond.methodLink RX1 81 yX1_findRides, Cond.instanceMethod yX1_findRides, Cond.selects RX1 yX1_findRides yX1_findRides, Cond.code yX1_findRides cX1_findRides 4 none]
def wsX3_losses_r4 : List Cond := [Cond.methodLink RX1 71 yX0_hasPerson, Cond.methodLink RX1 74 yX1_canTake, Cond.instanceMethod yX1_canTake, Cond.selects RX1 yX1_canTake yX1_canTake, Cond.code yX1_canTake cX1_canTake 5 (some .boolean), Cond.fieldLink RX1 56 "PunchedTicket$Line" "to" "[I", Cond.fieldLink RX1 59 "PunchedTicket$Line" "from" "[I", Cond.fieldLink RX1 78 "PunchedTicket$Line" "kind" "[I", Cond.methodLink RX1 85 yX1_hasTicket, Cond.instanceMethod yX1_hasTicket, Cond.selects RX1 yX1_hasTicket yX1_hasTicket, Cond.code yX1_hasTicket cX1_hasTicket 2 (some .boolean), Cond.methodLink RX1 88 yX1_to, Cond.instanceMethod yX1_to, Cond.selects RX1 yX1_to yX1_to, Cond.code yX1_to cX1_to 2 (some .int), Cond.methodLink RX1 52 yX1_isReturn, Cond.instanceMethod yX1_isReturn, Cond.selects RX1 yX1_isReturn yX1_isReturn, Cond.code yX1_isReturn cX1_isReturn 2 (some .boolean), Cond.methodLink RX1 91 yX1_useTicket, Cond.instanceMethod yX1_useTicket, Cond.selects RX1 yX1_useTicket yX1_useTicket, Cond.code yX1_useTicket cX1_useTicket 4 none]
def wsX3_losses_r5 : List Cond := [Cond.methodLink RX3 211 yX3_fraction, Cond.static yX3_fraction, Cond.code yX3_fraction cX3_fraction 4 (some .int), Cond.methodLink RX3 288 Lib.Math.abs.name, Cond.static Lib.Math.abs.name, Cond.initialized "java/lang/Math", Cond.code Lib.Math.abs.name Lib.Math.abs.code 1 (some .int), Cond.methodLink RX3 293 yX3_commonDivisor, Cond.static yX3_commonDivisor, Cond.code yX3_commonDivisor cX3_commonDivisor 6 (some .int)]
def wsX3_losses : List Cond := .code yX3_losses cX3_losses 11 (some .int) :: ((wsX3_losses_r1 ++ (wsX3_losses_r2 ++ (wsX3_losses_r3 ++ (wsX3_losses_r4 ++ wsX3_losses_r5)))) ++ wsX30 ++ wsX00 ++ wsX10 ++ wsX20)
def wsX3_seed : List Cond := .code yX3_seed cX3_seed 5 (some .long) :: ([.fieldLink RX3 64 "PunchedTicket" "theSeed" "J"] ++ wsX30)
def wsX3_years_r1 : List Cond := [Cond.fieldLink RX3 64 "PunchedTicket" "theSeed" "J", Cond.constantLong RX3 253 (6364136223846793005), Cond.constantLong RX3 255 (1442695040888963407), Cond.constantLong RX3 257 (64), Cond.fieldLink RX3 71 "PunchedTicket" "trial" "LPunchedTicket$Trial;", Cond.fieldLink RX3 32 "PunchedTicket" "now" "LPunchedTicket$Moment;", Cond.fieldLink RX3 178 "PunchedTicket$Trial" "moment" "LPunchedTicket$Moment;", Cond.fieldLink RX3 158 "PunchedTicket$Moment" "gone" "I", Cond.methodLink RX3 171 yX2_start, Cond.instanceMethod yX2_start, Cond.selects RX2 yX2_start yX2_start, Cond.initialized RX2, Cond.code yX2_start cX2_start 2 none, Cond.fieldLink RX2 24 "PunchedTicket$Trial" "moment" "LPunchedTicket$Moment;", Cond.methodLink RX2 28 yX1_copy, Cond.instanceMethod yX1_copy, Cond.selects RX1 yX1_copy yX1_copy, Cond.initialized RX1, Cond.code yX1_copy cX1_copy 2 none, Cond.fieldLink RX1 9 "PunchedTicket$Moment" "day" "I", Cond.fieldLink RX1 15 "PunchedTicket$Moment" "tickets" "I", Cond.fieldLink RX1 18 "PunchedTicket$Moment" "returns" "I", Cond.fieldLink RX1 21 "PunchedTicket$Moment" "gone" "I", Cond.fieldLink RX1 24 "PunchedTicket$Moment" "at" "[I"]
def wsX3_years_r2 : List Cond := [Cond.methodLink RX1 44 arraycopyName, Cond.native arraycopyName, Cond.static arraycopyName, Cond.initialized "java/lang/System", Cond.fieldLink RX1 28 "PunchedTicket$Moment" "forDay" "[I", Cond.fieldLink RX1 31 "PunchedTicket$Moment" "holder" "[I", Cond.methodLink RX3 199 yX2_gladAtEnd, Cond.instanceMethod yX2_gladAtEnd, Cond.selects RX2 yX2_gladAtEnd yX2_gladAtEnd, Cond.code yX2_gladAtEnd cX2_gladAtEnd 1 (some .int), Cond.methodLink RX2 64 yX2_passDaysTo, Cond.instanceMethod yX2_passDaysTo, Cond.selects RX2 yX2_passDaysTo yX2_passDaysTo, Cond.code yX2_passDaysTo cX2_passDaysTo 3 none, Cond.fieldLink RX2 51 "PunchedTicket$Moment" "day" "I", Cond.fieldLink RX2 9 "PunchedTicket$Trial" "rides" "[I", Cond.methodLink RX2 54 yX1_passDay, Cond.instanceMethod yX1_passDay, Cond.selects RX1 yX1_passDay yX1_passDay, Cond.code yX1_passDay cX1_passDay 5 (some .int), Cond.fieldLink RX1 34 "PunchedTicket$Moment" "line" "LPunchedTicket$Line;", Cond.fieldLink RX1 65 "PunchedTicket$Line" "people" "I", Cond.methodLink RX1 81 yX1_findRides, Cond.instanceMethod yX1_findRides]
def wsX3_years_r3 : List Cond := [Cond.selects RX1 yX1_findRides yX1_findRides, Cond.code yX1_findRides cX1_findRides 4 none, Cond.methodLink RX1 71 yX0_hasPerson, Cond.instanceMethod yX0_hasPerson, Cond.selects RX0 yX0_hasPerson yX0_hasPerson, Cond.initialized RX0, Cond.code yX0_hasPerson cX0_hasPerson 2 (some .boolean), Cond.fieldLink RX0 9 "PunchedTicket$Line" "people" "I", Cond.methodLink RX1 74 yX1_canTake, Cond.instanceMethod yX1_canTake, Cond.selects RX1 yX1_canTake yX1_canTake, Cond.code yX1_canTake cX1_canTake 5 (some .boolean), Cond.fieldLink RX1 56 "PunchedTicket$Line" "to" "[I", Cond.fieldLink RX1 59 "PunchedTicket$Line" "from" "[I", Cond.fieldLink RX1 78 "PunchedTicket$Line" "kind" "[I", Cond.methodLink RX1 85 yX1_hasTicket, Cond.instanceMethod yX1_hasTicket, Cond.selects RX1 yX1_hasTicket yX1_hasTicket, Cond.code yX1_hasTicket cX1_hasTicket 2 (some .boolean), Cond.methodLink RX1 88 yX1_to, Cond.instanceMethod yX1_to, Cond.selects RX1 yX1_to yX1_to, Cond.code yX1_to cX1_to 2 (some .int), Cond.methodLink RX1 52 yX1_isReturn]
def wsX3_years_r4 : List Cond := [Cond.instanceMethod yX1_isReturn, Cond.selects RX1 yX1_isReturn yX1_isReturn, Cond.code yX1_isReturn cX1_isReturn 2 (some .boolean), Cond.methodLink RX1 91 yX1_useTicket, Cond.instanceMethod yX1_useTicket, Cond.selects RX1 yX1_useTicket yX1_useTicket, Cond.code yX1_useTicket cX1_useTicket 4 none, Cond.methodLink RX2 68 yX1_gladNow, Cond.instanceMethod yX1_gladNow, Cond.selects RX1 yX1_gladNow yX1_gladNow, Cond.code yX1_gladNow cX1_gladNow 3 (some .int), Cond.fieldLink RX1 68 "PunchedTicket$Line" "liked" "[I"]
def wsX3_years : List Cond := .code yX3_years cX3_years 5 (some .int) :: ((wsX3_years_r1 ++ (wsX3_years_r2 ++ (wsX3_years_r3 ++ wsX3_years_r4))) ++ wsX30 ++ wsX20 ++ wsX10 ++ wsX00)
def wsX3_isSlot : List Cond := .code yX3_isSlot cX3_isSlot 1 (some .boolean) :: ([])
def wsX3_keep_r1 : List Cond := [Cond.fieldLink RX3 46 "PunchedTicket" "kept" "[LPunchedTicket$Moment;", Cond.fieldLink RX3 49 "PunchedTicket" "keptSlots" "I", Cond.fieldLink RX3 32 "PunchedTicket" "now" "LPunchedTicket$Moment;", Cond.fieldLink RX3 141 "PunchedTicket$Moment" "day" "I", Cond.methodLink RX3 259 yX3_isSlot, Cond.static yX3_isSlot, Cond.initialized RX3, Cond.code yX3_isSlot cX3_isSlot 1 (some .boolean), Cond.methodLink RX3 262 yX3_keepIn, Cond.instanceMethod yX3_keepIn, Cond.selects RX3 yX3_keepIn yX3_keepIn, Cond.code yX3_keepIn cX3_keepIn 4 none, Cond.classLink RX3 27 RX1, Cond.instantiable RX1 8, Cond.initialized RX1, Cond.fieldLink RX3 20 "PunchedTicket" "told" "LPunchedTicket$Line;", Cond.methodLink RX3 29 yX1_init, Cond.instanceMethod yX1_init, Cond.code yX1_init cX1_init 2 none, Cond.methodLink RX1 3 objectInit, Cond.instanceMethod objectInit, Cond.code objectInit ⟨#[0xb1]⟩ 1 none, Cond.fieldLink RX1 9 "PunchedTicket$Moment" "day" "I", Cond.fieldLink RX1 15 "PunchedTicket$Moment" "tickets" "I"]
def wsX3_keep_r2 : List Cond := [Cond.fieldLink RX1 18 "PunchedTicket$Moment" "returns" "I", Cond.fieldLink RX1 21 "PunchedTicket$Moment" "gone" "I", Cond.arrayClass .int, Cond.fieldLink RX1 24 "PunchedTicket$Moment" "at" "[I", Cond.fieldLink RX1 28 "PunchedTicket$Moment" "forDay" "[I", Cond.fieldLink RX1 31 "PunchedTicket$Moment" "holder" "[I", Cond.fieldLink RX1 34 "PunchedTicket$Moment" "line" "LPunchedTicket$Line;", Cond.methodLink RX3 168 yX1_copy, Cond.instanceMethod yX1_copy, Cond.selects RX1 yX1_copy yX1_copy, Cond.code yX1_copy cX1_copy 2 none, Cond.methodLink RX1 44 arraycopyName, Cond.native arraycopyName, Cond.static arraycopyName, Cond.initialized "java/lang/System"]
def wsX3_keep : List Cond := .code yX3_keep cX3_keep 2 (some .int) :: ((wsX3_keep_r1 ++ wsX3_keep_r2) ++ wsX30 ++ wsX10)
def wsX3_again_r1 : List Cond := [Cond.fieldLink RX3 46 "PunchedTicket" "kept" "[LPunchedTicket$Moment;", Cond.fieldLink RX3 49 "PunchedTicket" "keptSlots" "I", Cond.fieldLink RX3 32 "PunchedTicket" "now" "LPunchedTicket$Moment;", Cond.fieldLink RX3 141 "PunchedTicket$Moment" "day" "I", Cond.methodLink RX3 259 yX3_isSlot, Cond.static yX3_isSlot, Cond.initialized RX3, Cond.code yX3_isSlot cX3_isSlot 1 (some .boolean), Cond.methodLink RX3 168 yX1_copy, Cond.instanceMethod yX1_copy, Cond.selects RX1 yX1_copy yX1_copy, Cond.initialized RX1, Cond.code yX1_copy cX1_copy 2 none, Cond.fieldLink RX1 9 "PunchedTicket$Moment" "day" "I", Cond.fieldLink RX1 15 "PunchedTicket$Moment" "tickets" "I", Cond.fieldLink RX1 18 "PunchedTicket$Moment" "returns" "I", Cond.fieldLink RX1 21 "PunchedTicket$Moment" "gone" "I", Cond.fieldLink RX1 24 "PunchedTicket$Moment" "at" "[I", Cond.methodLink RX1 44 arraycopyName, Cond.native arraycopyName, Cond.static arraycopyName, Cond.initialized "java/lang/System", Cond.fieldLink RX1 28 "PunchedTicket$Moment" "forDay" "[I", Cond.fieldLink RX1 31 "PunchedTicket$Moment" "holder" "[I"]
def wsX3_again_r2 : List Cond := [Cond.methodLink RX3 88 yX3_forgetActs, Cond.instanceMethod yX3_forgetActs, Cond.selects RX3 yX3_forgetActs yX3_forgetActs, Cond.code yX3_forgetActs cX3_forgetActs 1 none, Cond.fieldLink RX3 40 "PunchedTicket" "firstAct" "I", Cond.fieldLink RX3 43 "PunchedTicket" "actsInRow" "I"]
def wsX3_again : List Cond := .code yX3_again cX3_again 3 (some .int) :: ((wsX3_again_r1 ++ wsX3_again_r2) ++ wsX30 ++ wsX10)
def wsX3_count : List Cond := .code yX3_count cX3_count 2 (some .int) :: ([.fieldLink RX3 13 "PunchedTicket" "letters" "I", .fieldLink RX3 20 "PunchedTicket" "told" "LPunchedTicket$Line;", .fieldLink RX3 91 "PunchedTicket$Line" "people" "I", .fieldLink RX3 94 "PunchedTicket$Line" "tickets" "I", .fieldLink RX3 32 "PunchedTicket" "now" "LPunchedTicket$Moment;", .fieldLink RX3 141 "PunchedTicket$Moment" "day" "I", .fieldLink RX3 158 "PunchedTicket$Moment" "gone" "I", .fieldLink RX3 43 "PunchedTicket" "actsInRow" "I", .fieldLink RX3 61 "PunchedTicket" "seenCount" "I", .methodLink RX3 266 yX1_gladNow, .instanceMethod yX1_gladNow, .selects RX1 yX1_gladNow yX1_gladNow, .initialized RX1, .code yX1_gladNow cX1_gladNow 3 (some .int), .fieldLink RX1 34 "PunchedTicket$Moment" "line" "LPunchedTicket$Line;", .fieldLink RX1 65 "PunchedTicket$Line" "people" "I", .fieldLink RX1 24 "PunchedTicket$Moment" "at" "[I", .fieldLink RX1 68 "PunchedTicket$Line" "liked" "[I"] ++ wsX30 ++ wsX00 ++ wsX10)
def wsX4_init_r1 : List Cond := [Cond.methodLink RX4 1 objectInit, Cond.instanceMethod objectInit, Cond.code objectInit ⟨#[0xb1]⟩ 1 none, Cond.arrayClass .int, Cond.fieldLink RX4 7 "PunchedTicketModel" "wish" "[I", Cond.fieldLink RX4 13 "PunchedTicketModel" "kind" "[I", Cond.fieldLink RX4 16 "PunchedTicketModel" "seat" "[I", Cond.fieldLink RX4 19 "PunchedTicketModel" "now" "[I", Cond.fieldLink RX4 22 "PunchedTicketModel" "readHome" "[I", Cond.fieldLink RX4 25 "PunchedTicketModel" "readWish" "[I", Cond.fieldLink RX4 28 "PunchedTicketModel" "readKind" "[I", Cond.fieldLink RX4 31 "PunchedTicketModel" "readTicket" "[I", Cond.fieldLink RX4 34 "PunchedTicketModel" "text" "[I", Cond.fieldLink RX4 37 "PunchedTicketModel" "by" "[I", Cond.fieldLink RX4 40 "PunchedTicketModel" "low" "[I", Cond.fieldLink RX4 43 "PunchedTicketModel" "high" "[I", Cond.fieldLink RX4 46 "PunchedTicketModel" "row" "[I", Cond.fieldLink RX4 49 "PunchedTicketModel" "glads" "[I", Cond.fieldLink RX4 52 "PunchedTicketModel" "seenOf" "[I", Cond.fieldLink RX4 55 "PunchedTicketModel" "seenOn" "[I", Cond.fieldLink RX4 58 "PunchedTicketModel" "seenWhen" "[I", Cond.arrayClass .boolean, Cond.fieldLink RX4 61 "PunchedTicketModel" "isKept" "[Z", Cond.fieldLink RX4 65 "PunchedTicketModel" "kept" "[I"]
def wsX4_init_r2 : List Cond := [Cond.fieldLink RX4 68 "PunchedTicketModel" "people" "I"]
def wsX4_init : List Cond := .code yX4_init cX4_init 1 none :: ((wsX4_init_r1 ++ wsX4_init_r2) ++ wsX40)
def wsX4_in : List Cond := .code yX4_in cX4_in 6 (some .boolean) :: ([])
def wsX4_has : List Cond := .code yX4_has cX4_has 2 (some .boolean) :: ([])
def wsX4_ones : List Cond := .code yX4_ones cX4_ones 3 (some .int) :: ([])
def wsX4_write : List Cond := .code yX4_write cX4_write 2 (some .int) :: ([.constantLong RX4 72 (255), .fieldLink RX4 78 "PunchedTicketModel" "length" "I", .fieldLink RX4 34 "PunchedTicketModel" "text" "[I", .methodLink RX4 74 yX4_in, .static yX4_in, .initialized RX4, .code yX4_in cX4_in 6 (some .boolean)] ++ wsX40)
def wsX4_wipe : List Cond := .code yX4_wipe cX4_wipe 2 (some .int) :: ([.fieldLink RX4 78 "PunchedTicketModel" "length" "I"] ++ wsX40)
def wsX4_figure : List Cond := .code yX4_figure cX4_figure 4 (some .int) :: ([.fieldLink RX4 81 "PunchedTicketModel" "faultAt" "I", .fieldLink RX4 84 "PunchedTicketModel" "at" "I", .fieldLink RX4 78 "PunchedTicketModel" "length" "I", .fieldLink RX4 34 "PunchedTicketModel" "text" "[I", .methodLink RX4 74 yX4_in, .static yX4_in, .initialized RX4, .code yX4_in cX4_in 6 (some .boolean)] ++ wsX40)
def wsX4_readText : List Cond := .code yX4_readText cX4_readText 2 (some .int) :: ([.fieldLink RX4 84 "PunchedTicketModel" "at" "I", .fieldLink RX4 81 "PunchedTicketModel" "faultAt" "I", .fieldLink RX4 87 "PunchedTicketModel" "readPeople" "I", .fieldLink RX4 90 "PunchedTicketModel" "readTickets" "I", .fieldLink RX4 78 "PunchedTicketModel" "length" "I", .fieldLink RX4 34 "PunchedTicketModel" "text" "[I", .fieldLink RX4 22 "PunchedTicketModel" "readHome" "[I", .fieldLink RX4 25 "PunchedTicketModel" "readWish" "[I", .fieldLink RX4 28 "PunchedTicketModel" "readKind" "[I", .fieldLink RX4 31 "PunchedTicketModel" "readTicket" "[I", .methodLink RX4 93 yX4_figure, .instanceMethod yX4_figure, .selects RX4 yX4_figure yX4_figure, .initialized RX4, .code yX4_figure cX4_figure 4 (some .int), .methodLink RX4 74 yX4_in, .static yX4_in, .code yX4_in cX4_in 6 (some .boolean)] ++ wsX40)
def wsX4_fault : List Cond := .code yX4_fault cX4_fault 1 (some .int) :: ([.methodLink RX4 97 yX4_readText, .instanceMethod yX4_readText, .selects RX4 yX4_readText yX4_readText, .initialized RX4, .code yX4_readText cX4_readText 2 (some .int), .fieldLink RX4 84 "PunchedTicketModel" "at" "I", .fieldLink RX4 81 "PunchedTicketModel" "faultAt" "I", .fieldLink RX4 87 "PunchedTicketModel" "readPeople" "I", .fieldLink RX4 90 "PunchedTicketModel" "readTickets" "I", .fieldLink RX4 78 "PunchedTicketModel" "length" "I", .fieldLink RX4 34 "PunchedTicketModel" "text" "[I", .fieldLink RX4 22 "PunchedTicketModel" "readHome" "[I", .fieldLink RX4 25 "PunchedTicketModel" "readWish" "[I", .fieldLink RX4 28 "PunchedTicketModel" "readKind" "[I", .fieldLink RX4 31 "PunchedTicketModel" "readTicket" "[I", .methodLink RX4 93 yX4_figure, .instanceMethod yX4_figure, .selects RX4 yX4_figure yX4_figure, .code yX4_figure cX4_figure 4 (some .int), .methodLink RX4 74 yX4_in, .static yX4_in, .code yX4_in cX4_in 6 (some .boolean)] ++ wsX40)
def wsX4_line_r1 : List Cond := [Cond.fieldLink RX4 87 "PunchedTicketModel" "readPeople" "I", Cond.fieldLink RX4 68 "PunchedTicketModel" "people" "I", Cond.fieldLink RX4 90 "PunchedTicketModel" "readTickets" "I", Cond.fieldLink RX4 101 "PunchedTicketModel" "tickets" "I", Cond.fieldLink RX4 19 "PunchedTicketModel" "now" "[I", Cond.fieldLink RX4 7 "PunchedTicketModel" "wish" "[I", Cond.fieldLink RX4 25 "PunchedTicketModel" "readWish" "[I", Cond.fieldLink RX4 13 "PunchedTicketModel" "kind" "[I", Cond.fieldLink RX4 28 "PunchedTicketModel" "readKind" "[I", Cond.fieldLink RX4 22 "PunchedTicketModel" "readHome" "[I", Cond.fieldLink RX4 31 "PunchedTicketModel" "readTicket" "[I", Cond.fieldLink RX4 16 "PunchedTicketModel" "seat" "[I", Cond.fieldLink RX4 104 "PunchedTicketModel" "acts" "I", Cond.fieldLink RX4 61 "PunchedTicketModel" "isKept" "[Z", Cond.methodLink RX4 97 yX4_readText, Cond.instanceMethod yX4_readText, Cond.selects RX4 yX4_readText yX4_readText, Cond.initialized RX4, Cond.code yX4_readText cX4_readText 2 (some .int), Cond.fieldLink RX4 84 "PunchedTicketModel" "at" "I", Cond.fieldLink RX4 81 "PunchedTicketModel" "faultAt" "I", Cond.fieldLink RX4 78 "PunchedTicketModel" "length" "I", Cond.fieldLink RX4 34 "PunchedTicketModel" "text" "[I", Cond.methodLink RX4 93 yX4_figure]
def wsX4_line_r2 : List Cond := [Cond.instanceMethod yX4_figure, Cond.selects RX4 yX4_figure yX4_figure, Cond.code yX4_figure cX4_figure 4 (some .int), Cond.methodLink RX4 74 yX4_in, Cond.static yX4_in, Cond.code yX4_in cX4_in 6 (some .boolean)]
def wsX4_line : List Cond := .code yX4_line cX4_line 3 (some .int) :: ((wsX4_line_r1 ++ wsX4_line_r2) ++ wsX40)
def wsX4_isPerson : List Cond := .code yX4_isPerson cX4_isPerson 2 (some .boolean) :: ([.fieldLink RX4 68 "PunchedTicketModel" "people" "I", .methodLink RX4 74 yX4_in, .static yX4_in, .initialized RX4, .code yX4_in cX4_in 6 (some .boolean)] ++ wsX40)
def wsX4_isTicket : List Cond := .code yX4_isTicket cX4_isTicket 2 (some .boolean) :: ([.fieldLink RX4 101 "PunchedTicketModel" "tickets" "I", .methodLink RX4 74 yX4_in, .static yX4_in, .initialized RX4, .code yX4_in cX4_in 6 (some .boolean)] ++ wsX40)
def wsX4_isGone : List Cond := .code yX4_isGone cX4_isGone 2 (some .boolean) :: ([.fieldLink RX4 19 "PunchedTicketModel" "now" "[I"] ++ wsX40)
def wsX4_holder : List Cond := .code yX4_holder cX4_holder 2 (some .int) :: ([.fieldLink RX4 19 "PunchedTicketModel" "now" "[I"] ++ wsX40)
def wsX4_goneNow : List Cond := .code yX4_goneNow cX4_goneNow 3 (some .int) :: ([.fieldLink RX4 101 "PunchedTicketModel" "tickets" "I", .methodLink RX4 107 yX4_isGone, .instanceMethod yX4_isGone, .selects RX4 yX4_isGone yX4_isGone, .initialized RX4, .code yX4_isGone cX4_isGone 2 (some .boolean), .fieldLink RX4 19 "PunchedTicketModel" "now" "[I"] ++ wsX40)
def wsX4_goesBy : List Cond := .code yX4_goesBy cX4_goesBy 9 (some .int) :: ([.fieldLink RX4 19 "PunchedTicketModel" "now" "[I", .fieldLink RX4 13 "PunchedTicketModel" "kind" "[I"] ++ wsX40)
def wsX4_person_r1 : List Cond := [Cond.fieldLink RX4 101 "PunchedTicketModel" "tickets" "I", Cond.fieldLink RX4 19 "PunchedTicketModel" "now" "[I", Cond.fieldLink RX4 7 "PunchedTicketModel" "wish" "[I", Cond.fieldLink RX4 13 "PunchedTicketModel" "kind" "[I", Cond.methodLink RX4 111 yX4_isPerson, Cond.instanceMethod yX4_isPerson, Cond.selects RX4 yX4_isPerson yX4_isPerson, Cond.initialized RX4, Cond.code yX4_isPerson cX4_isPerson 2 (some .boolean), Cond.fieldLink RX4 68 "PunchedTicketModel" "people" "I", Cond.methodLink RX4 74 yX4_in, Cond.static yX4_in, Cond.code yX4_in cX4_in 6 (some .boolean), Cond.methodLink RX4 107 yX4_isGone, Cond.instanceMethod yX4_isGone, Cond.selects RX4 yX4_isGone yX4_isGone, Cond.code yX4_isGone cX4_isGone 2 (some .boolean), Cond.methodLink RX4 114 yX4_holder, Cond.instanceMethod yX4_holder, Cond.selects RX4 yX4_holder yX4_holder, Cond.code yX4_holder cX4_holder 2 (some .int), Cond.methodLink RX4 118 yX4_goesBy, Cond.instanceMethod yX4_goesBy, Cond.selects RX4 yX4_goesBy yX4_goesBy]
def wsX4_person_r2 : List Cond := [Cond.code yX4_goesBy cX4_goesBy 9 (some .int)]
def wsX4_person : List Cond := .code yX4_person cX4_person 5 (some .int) :: ((wsX4_person_r1 ++ wsX4_person_r2) ++ wsX40)
def wsX4_ticket : List Cond := .code yX4_ticket cX4_ticket 4 (some .int) :: ([.fieldLink RX4 19 "PunchedTicketModel" "now" "[I", .fieldLink RX4 16 "PunchedTicketModel" "seat" "[I", .methodLink RX4 122 yX4_isTicket, .instanceMethod yX4_isTicket, .selects RX4 yX4_isTicket yX4_isTicket, .initialized RX4, .code yX4_isTicket cX4_isTicket 2 (some .boolean), .fieldLink RX4 101 "PunchedTicketModel" "tickets" "I", .methodLink RX4 74 yX4_in, .static yX4_in, .code yX4_in cX4_in 6 (some .boolean), .methodLink RX4 114 yX4_holder, .instanceMethod yX4_holder, .selects RX4 yX4_holder yX4_holder, .code yX4_holder cX4_holder 2 (some .int)] ++ wsX40)
def wsX4_use : List Cond := .code yX4_use cX4_use 8 none :: ([.fieldLink RX4 19 "PunchedTicketModel" "now" "[I", .fieldLink RX4 13 "PunchedTicketModel" "kind" "[I", .fieldLink RX4 68 "PunchedTicketModel" "people" "I"] ++ wsX40)
def wsX4_pass : List Cond := .code yX4_pass cX4_pass 9 (some .int) :: ([.fieldLink RX4 68 "PunchedTicketModel" "people" "I", .fieldLink RX4 37 "PunchedTicketModel" "by" "[I", .fieldLink RX4 19 "PunchedTicketModel" "now" "[I", .fieldLink RX4 40 "PunchedTicketModel" "low" "[I", .fieldLink RX4 43 "PunchedTicketModel" "high" "[I", .methodLink RX4 118 yX4_goesBy, .instanceMethod yX4_goesBy, .selects RX4 yX4_goesBy yX4_goesBy, .initialized RX4, .code yX4_goesBy cX4_goesBy 9 (some .int), .fieldLink RX4 13 "PunchedTicketModel" "kind" "[I", .methodLink RX4 125 yX4_use, .instanceMethod yX4_use, .selects RX4 yX4_use yX4_use, .code yX4_use cX4_use 8 none] ++ wsX40)
def wsX4_areTogether : List Cond := .code yX4_areTogether cX4_areTogether 4 (some .boolean) :: ([.fieldLink RX4 40 "PunchedTicketModel" "low" "[I", .fieldLink RX4 43 "PunchedTicketModel" "high" "[I", .methodLink RX4 129 yX4_has, .static yX4_has, .initialized RX4, .code yX4_has cX4_has 2 (some .boolean)] ++ wsX40)
def wsX4_isDouble : List Cond := .code yX4_isDouble cX4_isDouble 5 (some .boolean) :: ([.fieldLink RX4 68 "PunchedTicketModel" "people" "I", .fieldLink RX4 16 "PunchedTicketModel" "seat" "[I", .fieldLink RX4 37 "PunchedTicketModel" "by" "[I", .methodLink RX4 133 yX4_areTogether, .instanceMethod yX4_areTogether, .selects RX4 yX4_areTogether yX4_areTogether, .initialized RX4, .code yX4_areTogether cX4_areTogether 4 (some .boolean), .fieldLink RX4 40 "PunchedTicketModel" "low" "[I", .fieldLink RX4 43 "PunchedTicketModel" "high" "[I", .methodLink RX4 129 yX4_has, .static yX4_has, .code yX4_has cX4_has 2 (some .boolean)] ++ wsX40)
def wsX4_keepAct : List Cond := .code yX4_keepAct cX4_keepAct 2 none :: ([.fieldLink RX4 46 "PunchedTicketModel" "row" "[I", .fieldLink RX4 137 "PunchedTicketModel" "next" "I", .fieldLink RX4 19 "PunchedTicketModel" "now" "[I", .fieldLink RX4 104 "PunchedTicketModel" "acts" "I"] ++ wsX40)
def wsX4_day_r1 : List Cond := [Cond.fieldLink RX4 19 "PunchedTicketModel" "now" "[I", Cond.fieldLink RX4 101 "PunchedTicketModel" "tickets" "I", Cond.methodLink RX4 140 yX4_keepAct, Cond.instanceMethod yX4_keepAct, Cond.selects RX4 yX4_keepAct yX4_keepAct, Cond.initialized RX4, Cond.code yX4_keepAct cX4_keepAct 2 none, Cond.fieldLink RX4 46 "PunchedTicketModel" "row" "[I", Cond.fieldLink RX4 137 "PunchedTicketModel" "next" "I", Cond.fieldLink RX4 104 "PunchedTicketModel" "acts" "I", Cond.methodLink RX4 143 yX4_pass, Cond.instanceMethod yX4_pass, Cond.selects RX4 yX4_pass yX4_pass, Cond.code yX4_pass cX4_pass 9 (some .int), Cond.fieldLink RX4 68 "PunchedTicketModel" "people" "I", Cond.fieldLink RX4 37 "PunchedTicketModel" "by" "[I", Cond.fieldLink RX4 40 "PunchedTicketModel" "low" "[I", Cond.fieldLink RX4 43 "PunchedTicketModel" "high" "[I", Cond.methodLink RX4 118 yX4_goesBy, Cond.instanceMethod yX4_goesBy, Cond.selects RX4 yX4_goesBy yX4_goesBy, Cond.code yX4_goesBy cX4_goesBy 9 (some .int), Cond.fieldLink RX4 13 "PunchedTicketModel" "kind" "[I", Cond.methodLink RX4 125 yX4_use]
def wsX4_day_r2 : List Cond := [Cond.instanceMethod yX4_use, Cond.selects RX4 yX4_use yX4_use, Cond.code yX4_use cX4_use 8 none]
def wsX4_day : List Cond := .code yX4_day cX4_day 1 (some .int) :: ((wsX4_day_r1 ++ wsX4_day_r2) ++ wsX40)
def wsX4_give_r1 : List Cond := [Cond.fieldLink RX4 19 "PunchedTicketModel" "now" "[I", Cond.methodLink RX4 122 yX4_isTicket, Cond.instanceMethod yX4_isTicket, Cond.selects RX4 yX4_isTicket yX4_isTicket, Cond.initialized RX4, Cond.code yX4_isTicket cX4_isTicket 2 (some .boolean), Cond.fieldLink RX4 101 "PunchedTicketModel" "tickets" "I", Cond.methodLink RX4 74 yX4_in, Cond.static yX4_in, Cond.code yX4_in cX4_in 6 (some .boolean), Cond.methodLink RX4 111 yX4_isPerson, Cond.instanceMethod yX4_isPerson, Cond.selects RX4 yX4_isPerson yX4_isPerson, Cond.code yX4_isPerson cX4_isPerson 2 (some .boolean), Cond.fieldLink RX4 68 "PunchedTicketModel" "people" "I", Cond.methodLink RX4 107 yX4_isGone, Cond.instanceMethod yX4_isGone, Cond.selects RX4 yX4_isGone yX4_isGone, Cond.code yX4_isGone cX4_isGone 2 (some .boolean), Cond.methodLink RX4 114 yX4_holder, Cond.instanceMethod yX4_holder, Cond.selects RX4 yX4_holder yX4_holder, Cond.code yX4_holder cX4_holder 2 (some .int), Cond.methodLink RX4 140 yX4_keepAct]
def wsX4_give_r2 : List Cond := [Cond.instanceMethod yX4_keepAct, Cond.selects RX4 yX4_keepAct yX4_keepAct, Cond.code yX4_keepAct cX4_keepAct 2 none, Cond.fieldLink RX4 46 "PunchedTicketModel" "row" "[I", Cond.fieldLink RX4 137 "PunchedTicketModel" "next" "I", Cond.fieldLink RX4 104 "PunchedTicketModel" "acts" "I"]
def wsX4_give : List Cond := .code yX4_give cX4_give 4 (some .int) :: ((wsX4_give_r1 ++ wsX4_give_r2) ++ wsX40)
def wsX4_lose_r1 : List Cond := [Cond.fieldLink RX4 19 "PunchedTicketModel" "now" "[I", Cond.methodLink RX4 122 yX4_isTicket, Cond.instanceMethod yX4_isTicket, Cond.selects RX4 yX4_isTicket yX4_isTicket, Cond.initialized RX4, Cond.code yX4_isTicket cX4_isTicket 2 (some .boolean), Cond.fieldLink RX4 101 "PunchedTicketModel" "tickets" "I", Cond.methodLink RX4 74 yX4_in, Cond.static yX4_in, Cond.code yX4_in cX4_in 6 (some .boolean), Cond.methodLink RX4 107 yX4_isGone, Cond.instanceMethod yX4_isGone, Cond.selects RX4 yX4_isGone yX4_isGone, Cond.code yX4_isGone cX4_isGone 2 (some .boolean), Cond.methodLink RX4 140 yX4_keepAct, Cond.instanceMethod yX4_keepAct, Cond.selects RX4 yX4_keepAct yX4_keepAct, Cond.code yX4_keepAct cX4_keepAct 2 none, Cond.fieldLink RX4 46 "PunchedTicketModel" "row" "[I", Cond.fieldLink RX4 137 "PunchedTicketModel" "next" "I", Cond.fieldLink RX4 104 "PunchedTicketModel" "acts" "I", Cond.methodLink RX4 114 yX4_holder, Cond.instanceMethod yX4_holder, Cond.selects RX4 yX4_holder yX4_holder]
def wsX4_lose_r2 : List Cond := [Cond.code yX4_holder cX4_holder 2 (some .int)]
def wsX4_lose : List Cond := .code yX4_lose cX4_lose 2 (some .int) :: ((wsX4_lose_r1 ++ wsX4_lose_r2) ++ wsX40)
def wsX4_canChange : List Cond := .code yX4_canChange cX4_canChange 3 (some .boolean) :: ([.methodLink RX4 107 yX4_isGone, .instanceMethod yX4_isGone, .selects RX4 yX4_isGone yX4_isGone, .initialized RX4, .code yX4_isGone cX4_isGone 2 (some .boolean), .fieldLink RX4 19 "PunchedTicketModel" "now" "[I", .methodLink RX4 114 yX4_holder, .instanceMethod yX4_holder, .selects RX4 yX4_holder yX4_holder, .code yX4_holder cX4_holder 2 (some .int)] ++ wsX40)
def wsX4_changeOn : List Cond := .code yX4_changeOn cX4_changeOn 7 none :: ([.fieldLink RX4 19 "PunchedTicketModel" "now" "[I"] ++ wsX40)
def wsX4_change_r1 : List Cond := [Cond.methodLink RX4 122 yX4_isTicket, Cond.instanceMethod yX4_isTicket, Cond.selects RX4 yX4_isTicket yX4_isTicket, Cond.initialized RX4, Cond.code yX4_isTicket cX4_isTicket 2 (some .boolean), Cond.fieldLink RX4 101 "PunchedTicketModel" "tickets" "I", Cond.methodLink RX4 74 yX4_in, Cond.static yX4_in, Cond.code yX4_in cX4_in 6 (some .boolean), Cond.methodLink RX4 146 yX4_canChange, Cond.instanceMethod yX4_canChange, Cond.selects RX4 yX4_canChange yX4_canChange, Cond.code yX4_canChange cX4_canChange 3 (some .boolean), Cond.methodLink RX4 107 yX4_isGone, Cond.instanceMethod yX4_isGone, Cond.selects RX4 yX4_isGone yX4_isGone, Cond.code yX4_isGone cX4_isGone 2 (some .boolean), Cond.fieldLink RX4 19 "PunchedTicketModel" "now" "[I", Cond.methodLink RX4 114 yX4_holder, Cond.instanceMethod yX4_holder, Cond.selects RX4 yX4_holder yX4_holder, Cond.code yX4_holder cX4_holder 2 (some .int), Cond.methodLink RX4 140 yX4_keepAct, Cond.instanceMethod yX4_keepAct]
def wsX4_change_r2 : List Cond := [Cond.selects RX4 yX4_keepAct yX4_keepAct, Cond.code yX4_keepAct cX4_keepAct 2 none, Cond.fieldLink RX4 46 "PunchedTicketModel" "row" "[I", Cond.fieldLink RX4 137 "PunchedTicketModel" "next" "I", Cond.fieldLink RX4 104 "PunchedTicketModel" "acts" "I", Cond.methodLink RX4 149 yX4_changeOn, Cond.instanceMethod yX4_changeOn, Cond.selects RX4 yX4_changeOn yX4_changeOn, Cond.code yX4_changeOn cX4_changeOn 7 none]
def wsX4_change : List Cond := .code yX4_change cX4_change 3 (some .int) :: ((wsX4_change_r1 ++ wsX4_change_r2) ++ wsX40)
def wsX4_undo : List Cond := .code yX4_undo cX4_undo 2 (some .int) :: ([.fieldLink RX4 104 "PunchedTicketModel" "acts" "I", .fieldLink RX4 137 "PunchedTicketModel" "next" "I", .fieldLink RX4 19 "PunchedTicketModel" "now" "[I", .fieldLink RX4 46 "PunchedTicketModel" "row" "[I"] ++ wsX40)
def wsX4_layTrial : List Cond := .code yX4_layTrial cX4_layTrial 2 none :: ([.fieldLink RX4 19 "PunchedTicketModel" "now" "[I"] ++ wsX40)
def wsX4_loseTrial : List Cond := .code yX4_loseTrial cX4_loseTrial 3 none :: ([.fieldLink RX4 101 "PunchedTicketModel" "tickets" "I", .fieldLink RX4 19 "PunchedTicketModel" "now" "[I"] ++ wsX40)
def wsX4_passAll : List Cond := .code yX4_passAll cX4_passAll 3 (some .int) :: ([.fieldLink RX4 19 "PunchedTicketModel" "now" "[I", .methodLink RX4 143 yX4_pass, .instanceMethod yX4_pass, .selects RX4 yX4_pass yX4_pass, .initialized RX4, .code yX4_pass cX4_pass 9 (some .int), .fieldLink RX4 68 "PunchedTicketModel" "people" "I", .fieldLink RX4 37 "PunchedTicketModel" "by" "[I", .fieldLink RX4 40 "PunchedTicketModel" "low" "[I", .fieldLink RX4 43 "PunchedTicketModel" "high" "[I", .methodLink RX4 118 yX4_goesBy, .instanceMethod yX4_goesBy, .selects RX4 yX4_goesBy yX4_goesBy, .code yX4_goesBy cX4_goesBy 9 (some .int), .fieldLink RX4 13 "PunchedTicketModel" "kind" "[I", .methodLink RX4 125 yX4_use, .instanceMethod yX4_use, .selects RX4 yX4_use yX4_use, .code yX4_use cX4_use 8 none, .methodLink RX4 152 yX4_ones, .static yX4_ones, .code yX4_ones cX4_ones 3 (some .int)] ++ wsX40)
def wsX4_where_r1 : List Cond := [Cond.constantLong RX4 155 (10), Cond.fieldLink RX4 19 "PunchedTicketModel" "now" "[I", Cond.fieldLink RX4 101 "PunchedTicketModel" "tickets" "I", Cond.methodLink RX4 111 yX4_isPerson, Cond.instanceMethod yX4_isPerson, Cond.selects RX4 yX4_isPerson yX4_isPerson, Cond.initialized RX4, Cond.code yX4_isPerson cX4_isPerson 2 (some .boolean), Cond.fieldLink RX4 68 "PunchedTicketModel" "people" "I", Cond.methodLink RX4 74 yX4_in, Cond.static yX4_in, Cond.code yX4_in cX4_in 6 (some .boolean), Cond.methodLink RX4 157 yX4_layTrial, Cond.instanceMethod yX4_layTrial, Cond.selects RX4 yX4_layTrial yX4_layTrial, Cond.code yX4_layTrial cX4_layTrial 2 none, Cond.methodLink RX4 143 yX4_pass, Cond.instanceMethod yX4_pass, Cond.selects RX4 yX4_pass yX4_pass, Cond.code yX4_pass cX4_pass 9 (some .int), Cond.fieldLink RX4 37 "PunchedTicketModel" "by" "[I", Cond.fieldLink RX4 40 "PunchedTicketModel" "low" "[I", Cond.fieldLink RX4 43 "PunchedTicketModel" "high" "[I", Cond.methodLink RX4 118 yX4_goesBy]
def wsX4_where_r2 : List Cond := [Cond.instanceMethod yX4_goesBy, Cond.selects RX4 yX4_goesBy yX4_goesBy, Cond.code yX4_goesBy cX4_goesBy 9 (some .int), Cond.fieldLink RX4 13 "PunchedTicketModel" "kind" "[I", Cond.methodLink RX4 125 yX4_use, Cond.instanceMethod yX4_use, Cond.selects RX4 yX4_use yX4_use, Cond.code yX4_use cX4_use 8 none]
def wsX4_where : List Cond := .code yX4_where cX4_where 3 (some .int) :: ((wsX4_where_r1 ++ wsX4_where_r2) ++ wsX40)
def wsX4_meetOf_r1 : List Cond := [Cond.fieldLink RX4 19 "PunchedTicketModel" "now" "[I", Cond.fieldLink RX4 101 "PunchedTicketModel" "tickets" "I", Cond.methodLink RX4 143 yX4_pass, Cond.instanceMethod yX4_pass, Cond.selects RX4 yX4_pass yX4_pass, Cond.initialized RX4, Cond.code yX4_pass cX4_pass 9 (some .int), Cond.fieldLink RX4 68 "PunchedTicketModel" "people" "I", Cond.fieldLink RX4 37 "PunchedTicketModel" "by" "[I", Cond.fieldLink RX4 40 "PunchedTicketModel" "low" "[I", Cond.fieldLink RX4 43 "PunchedTicketModel" "high" "[I", Cond.methodLink RX4 118 yX4_goesBy, Cond.instanceMethod yX4_goesBy, Cond.selects RX4 yX4_goesBy yX4_goesBy, Cond.code yX4_goesBy cX4_goesBy 9 (some .int), Cond.fieldLink RX4 13 "PunchedTicketModel" "kind" "[I", Cond.methodLink RX4 125 yX4_use, Cond.instanceMethod yX4_use, Cond.selects RX4 yX4_use yX4_use, Cond.code yX4_use cX4_use 8 none, Cond.methodLink RX4 133 yX4_areTogether, Cond.instanceMethod yX4_areTogether, Cond.selects RX4 yX4_areTogether yX4_areTogether, Cond.code yX4_areTogether cX4_areTogether 4 (some .boolean)]
def wsX4_meetOf_r2 : List Cond := [Cond.methodLink RX4 129 yX4_has, Cond.static yX4_has, Cond.code yX4_has cX4_has 2 (some .boolean)]
def wsX4_meetOf : List Cond := .code yX4_meetOf cX4_meetOf 3 (some .int) :: ((wsX4_meetOf_r1 ++ wsX4_meetOf_r2) ++ wsX40)
def wsX4_meet_r1 : List Cond := [Cond.methodLink RX4 111 yX4_isPerson, Cond.instanceMethod yX4_isPerson, Cond.selects RX4 yX4_isPerson yX4_isPerson, Cond.initialized RX4, Cond.code yX4_isPerson cX4_isPerson 2 (some .boolean), Cond.fieldLink RX4 68 "PunchedTicketModel" "people" "I", Cond.methodLink RX4 74 yX4_in, Cond.static yX4_in, Cond.code yX4_in cX4_in 6 (some .boolean), Cond.methodLink RX4 157 yX4_layTrial, Cond.instanceMethod yX4_layTrial, Cond.selects RX4 yX4_layTrial yX4_layTrial, Cond.code yX4_layTrial cX4_layTrial 2 none, Cond.fieldLink RX4 19 "PunchedTicketModel" "now" "[I", Cond.methodLink RX4 160 yX4_meetOf, Cond.instanceMethod yX4_meetOf, Cond.selects RX4 yX4_meetOf yX4_meetOf, Cond.code yX4_meetOf cX4_meetOf 3 (some .int), Cond.fieldLink RX4 101 "PunchedTicketModel" "tickets" "I", Cond.methodLink RX4 143 yX4_pass, Cond.instanceMethod yX4_pass, Cond.selects RX4 yX4_pass yX4_pass, Cond.code yX4_pass cX4_pass 9 (some .int), Cond.fieldLink RX4 37 "PunchedTicketModel" "by" "[I"]
def wsX4_meet_r2 : List Cond := [Cond.fieldLink RX4 40 "PunchedTicketModel" "low" "[I", Cond.fieldLink RX4 43 "PunchedTicketModel" "high" "[I", Cond.methodLink RX4 118 yX4_goesBy, Cond.instanceMethod yX4_goesBy, Cond.selects RX4 yX4_goesBy yX4_goesBy, Cond.code yX4_goesBy cX4_goesBy 9 (some .int), Cond.fieldLink RX4 13 "PunchedTicketModel" "kind" "[I", Cond.methodLink RX4 125 yX4_use, Cond.instanceMethod yX4_use, Cond.selects RX4 yX4_use yX4_use, Cond.code yX4_use cX4_use 8 none, Cond.methodLink RX4 133 yX4_areTogether, Cond.instanceMethod yX4_areTogether, Cond.selects RX4 yX4_areTogether yX4_areTogether, Cond.code yX4_areTogether cX4_areTogether 4 (some .boolean), Cond.methodLink RX4 129 yX4_has, Cond.static yX4_has, Cond.code yX4_has cX4_has 2 (some .boolean)]
def wsX4_meet : List Cond := .code yX4_meet cX4_meet 3 (some .int) :: ((wsX4_meet_r1 ++ wsX4_meet_r2) ++ wsX40)
def wsX4_twoSeats_r1 : List Cond := [Cond.fieldLink RX4 19 "PunchedTicketModel" "now" "[I", Cond.fieldLink RX4 101 "PunchedTicketModel" "tickets" "I", Cond.methodLink RX4 157 yX4_layTrial, Cond.instanceMethod yX4_layTrial, Cond.selects RX4 yX4_layTrial yX4_layTrial, Cond.initialized RX4, Cond.code yX4_layTrial cX4_layTrial 2 none, Cond.methodLink RX4 143 yX4_pass, Cond.instanceMethod yX4_pass, Cond.selects RX4 yX4_pass yX4_pass, Cond.code yX4_pass cX4_pass 9 (some .int), Cond.fieldLink RX4 68 "PunchedTicketModel" "people" "I", Cond.fieldLink RX4 37 "PunchedTicketModel" "by" "[I", Cond.fieldLink RX4 40 "PunchedTicketModel" "low" "[I", Cond.fieldLink RX4 43 "PunchedTicketModel" "high" "[I", Cond.methodLink RX4 118 yX4_goesBy, Cond.instanceMethod yX4_goesBy, Cond.selects RX4 yX4_goesBy yX4_goesBy, Cond.code yX4_goesBy cX4_goesBy 9 (some .int), Cond.fieldLink RX4 13 "PunchedTicketModel" "kind" "[I", Cond.methodLink RX4 125 yX4_use, Cond.instanceMethod yX4_use, Cond.selects RX4 yX4_use yX4_use, Cond.code yX4_use cX4_use 8 none]
def wsX4_twoSeats_r2 : List Cond := [Cond.methodLink RX4 163 yX4_isDouble, Cond.instanceMethod yX4_isDouble, Cond.selects RX4 yX4_isDouble yX4_isDouble, Cond.code yX4_isDouble cX4_isDouble 5 (some .boolean), Cond.fieldLink RX4 16 "PunchedTicketModel" "seat" "[I", Cond.methodLink RX4 133 yX4_areTogether, Cond.instanceMethod yX4_areTogether, Cond.selects RX4 yX4_areTogether yX4_areTogether, Cond.code yX4_areTogether cX4_areTogether 4 (some .boolean), Cond.methodLink RX4 129 yX4_has, Cond.static yX4_has, Cond.code yX4_has cX4_has 2 (some .boolean)]
def wsX4_twoSeats : List Cond := .code yX4_twoSeats cX4_twoSeats 1 (some .int) :: ((wsX4_twoSeats_r1 ++ wsX4_twoSeats_r2) ++ wsX40)
def wsX4_giveTrial : List Cond := .code yX4_giveTrial cX4_giveTrial 4 (some .boolean) :: ([.fieldLink RX4 19 "PunchedTicketModel" "now" "[I", .methodLink RX4 122 yX4_isTicket, .instanceMethod yX4_isTicket, .selects RX4 yX4_isTicket yX4_isTicket, .initialized RX4, .code yX4_isTicket cX4_isTicket 2 (some .boolean), .fieldLink RX4 101 "PunchedTicketModel" "tickets" "I", .methodLink RX4 74 yX4_in, .static yX4_in, .code yX4_in cX4_in 6 (some .boolean), .methodLink RX4 111 yX4_isPerson, .instanceMethod yX4_isPerson, .selects RX4 yX4_isPerson yX4_isPerson, .code yX4_isPerson cX4_isPerson 2 (some .boolean), .fieldLink RX4 68 "PunchedTicketModel" "people" "I", .methodLink RX4 107 yX4_isGone, .instanceMethod yX4_isGone, .selects RX4 yX4_isGone yX4_isGone, .code yX4_isGone cX4_isGone 2 (some .boolean)] ++ wsX40)
def wsX4_fewest_r1 : List Cond := [Cond.methodLink RX4 111 yX4_isPerson, Cond.instanceMethod yX4_isPerson, Cond.selects RX4 yX4_isPerson yX4_isPerson, Cond.initialized RX4, Cond.code yX4_isPerson cX4_isPerson 2 (some .boolean), Cond.fieldLink RX4 68 "PunchedTicketModel" "people" "I", Cond.methodLink RX4 74 yX4_in, Cond.static yX4_in, Cond.code yX4_in cX4_in 6 (some .boolean), Cond.methodLink RX4 157 yX4_layTrial, Cond.instanceMethod yX4_layTrial, Cond.selects RX4 yX4_layTrial yX4_layTrial, Cond.code yX4_layTrial cX4_layTrial 2 none, Cond.fieldLink RX4 19 "PunchedTicketModel" "now" "[I", Cond.methodLink RX4 160 yX4_meetOf, Cond.instanceMethod yX4_meetOf, Cond.selects RX4 yX4_meetOf yX4_meetOf, Cond.code yX4_meetOf cX4_meetOf 3 (some .int), Cond.fieldLink RX4 101 "PunchedTicketModel" "tickets" "I", Cond.methodLink RX4 143 yX4_pass, Cond.instanceMethod yX4_pass, Cond.selects RX4 yX4_pass yX4_pass, Cond.code yX4_pass cX4_pass 9 (some .int), Cond.fieldLink RX4 37 "PunchedTicketModel" "by" "[I"]
def wsX4_fewest_r2 : List Cond := [Cond.fieldLink RX4 40 "PunchedTicketModel" "low" "[I", Cond.fieldLink RX4 43 "PunchedTicketModel" "high" "[I", Cond.methodLink RX4 118 yX4_goesBy, Cond.instanceMethod yX4_goesBy, Cond.selects RX4 yX4_goesBy yX4_goesBy, Cond.code yX4_goesBy cX4_goesBy 9 (some .int), Cond.fieldLink RX4 13 "PunchedTicketModel" "kind" "[I", Cond.methodLink RX4 125 yX4_use, Cond.instanceMethod yX4_use, Cond.selects RX4 yX4_use yX4_use, Cond.code yX4_use cX4_use 8 none, Cond.methodLink RX4 133 yX4_areTogether, Cond.instanceMethod yX4_areTogether, Cond.selects RX4 yX4_areTogether yX4_areTogether, Cond.code yX4_areTogether cX4_areTogether 4 (some .boolean), Cond.methodLink RX4 129 yX4_has, Cond.static yX4_has, Cond.code yX4_has cX4_has 2 (some .boolean), Cond.methodLink RX4 166 yX4_giveTrial, Cond.instanceMethod yX4_giveTrial, Cond.selects RX4 yX4_giveTrial yX4_giveTrial, Cond.code yX4_giveTrial cX4_giveTrial 4 (some .boolean), Cond.methodLink RX4 122 yX4_isTicket, Cond.instanceMethod yX4_isTicket]
def wsX4_fewest_r3 : List Cond := [Cond.selects RX4 yX4_isTicket yX4_isTicket, Cond.code yX4_isTicket cX4_isTicket 2 (some .boolean), Cond.methodLink RX4 107 yX4_isGone, Cond.instanceMethod yX4_isGone, Cond.selects RX4 yX4_isGone yX4_isGone, Cond.code yX4_isGone cX4_isGone 2 (some .boolean)]
def wsX4_fewest : List Cond := .code yX4_fewest cX4_fewest 5 (some .int) :: ((wsX4_fewest_r1 ++ (wsX4_fewest_r2 ++ wsX4_fewest_r3)) ++ wsX40)
def wsX4_gladOf : List Cond := .code yX4_gladOf cX4_gladOf 3 (some .int) :: ([.fieldLink RX4 68 "PunchedTicketModel" "people" "I", .fieldLink RX4 19 "PunchedTicketModel" "now" "[I", .fieldLink RX4 7 "PunchedTicketModel" "wish" "[I"] ++ wsX40)
def wsX4_gladWithout_r1 : List Cond := [Cond.fieldLink RX4 101 "PunchedTicketModel" "tickets" "I", Cond.methodLink RX4 157 yX4_layTrial, Cond.instanceMethod yX4_layTrial, Cond.selects RX4 yX4_layTrial yX4_layTrial, Cond.initialized RX4, Cond.code yX4_layTrial cX4_layTrial 2 none, Cond.fieldLink RX4 19 "PunchedTicketModel" "now" "[I", Cond.methodLink RX4 169 yX4_loseTrial, Cond.instanceMethod yX4_loseTrial, Cond.selects RX4 yX4_loseTrial yX4_loseTrial, Cond.code yX4_loseTrial cX4_loseTrial 3 none, Cond.methodLink RX4 173 yX4_passAll, Cond.instanceMethod yX4_passAll, Cond.selects RX4 yX4_passAll yX4_passAll, Cond.code yX4_passAll cX4_passAll 3 (some .int), Cond.methodLink RX4 143 yX4_pass, Cond.instanceMethod yX4_pass, Cond.selects RX4 yX4_pass yX4_pass, Cond.code yX4_pass cX4_pass 9 (some .int), Cond.fieldLink RX4 68 "PunchedTicketModel" "people" "I", Cond.fieldLink RX4 37 "PunchedTicketModel" "by" "[I", Cond.fieldLink RX4 40 "PunchedTicketModel" "low" "[I", Cond.fieldLink RX4 43 "PunchedTicketModel" "high" "[I", Cond.methodLink RX4 118 yX4_goesBy]
def wsX4_gladWithout_r2 : List Cond := [Cond.instanceMethod yX4_goesBy, Cond.selects RX4 yX4_goesBy yX4_goesBy, Cond.code yX4_goesBy cX4_goesBy 9 (some .int), Cond.fieldLink RX4 13 "PunchedTicketModel" "kind" "[I", Cond.methodLink RX4 125 yX4_use, Cond.instanceMethod yX4_use, Cond.selects RX4 yX4_use yX4_use, Cond.code yX4_use cX4_use 8 none, Cond.methodLink RX4 152 yX4_ones, Cond.static yX4_ones, Cond.code yX4_ones cX4_ones 3 (some .int), Cond.methodLink RX4 176 yX4_gladOf, Cond.instanceMethod yX4_gladOf, Cond.selects RX4 yX4_gladOf yX4_gladOf, Cond.code yX4_gladOf cX4_gladOf 3 (some .int), Cond.fieldLink RX4 7 "PunchedTicketModel" "wish" "[I"]
def wsX4_gladWithout : List Cond := .code yX4_gladWithout cX4_gladWithout 2 (some .int) :: ((wsX4_gladWithout_r1 ++ wsX4_gladWithout_r2) ++ wsX40)
def wsX4_glad_r1 : List Cond := [Cond.methodLink RX4 179 yX4_gladWithout, Cond.instanceMethod yX4_gladWithout, Cond.selects RX4 yX4_gladWithout yX4_gladWithout, Cond.initialized RX4, Cond.code yX4_gladWithout cX4_gladWithout 2 (some .int), Cond.fieldLink RX4 101 "PunchedTicketModel" "tickets" "I", Cond.methodLink RX4 157 yX4_layTrial, Cond.instanceMethod yX4_layTrial, Cond.selects RX4 yX4_layTrial yX4_layTrial, Cond.code yX4_layTrial cX4_layTrial 2 none, Cond.fieldLink RX4 19 "PunchedTicketModel" "now" "[I", Cond.methodLink RX4 169 yX4_loseTrial, Cond.instanceMethod yX4_loseTrial, Cond.selects RX4 yX4_loseTrial yX4_loseTrial, Cond.code yX4_loseTrial cX4_loseTrial 3 none, Cond.methodLink RX4 173 yX4_passAll, Cond.instanceMethod yX4_passAll, Cond.selects RX4 yX4_passAll yX4_passAll, Cond.code yX4_passAll cX4_passAll 3 (some .int), Cond.methodLink RX4 143 yX4_pass, Cond.instanceMethod yX4_pass, Cond.selects RX4 yX4_pass yX4_pass, Cond.code yX4_pass cX4_pass 9 (some .int), Cond.fieldLink RX4 68 "PunchedTicketModel" "people" "I"]
def wsX4_glad_r2 : List Cond := [Cond.fieldLink RX4 37 "PunchedTicketModel" "by" "[I", Cond.fieldLink RX4 40 "PunchedTicketModel" "low" "[I", Cond.fieldLink RX4 43 "PunchedTicketModel" "high" "[I", Cond.methodLink RX4 118 yX4_goesBy, Cond.instanceMethod yX4_goesBy, Cond.selects RX4 yX4_goesBy yX4_goesBy, Cond.code yX4_goesBy cX4_goesBy 9 (some .int), Cond.fieldLink RX4 13 "PunchedTicketModel" "kind" "[I", Cond.methodLink RX4 125 yX4_use, Cond.instanceMethod yX4_use, Cond.selects RX4 yX4_use yX4_use, Cond.code yX4_use cX4_use 8 none, Cond.methodLink RX4 152 yX4_ones, Cond.static yX4_ones, Cond.code yX4_ones cX4_ones 3 (some .int), Cond.methodLink RX4 176 yX4_gladOf, Cond.instanceMethod yX4_gladOf, Cond.selects RX4 yX4_gladOf yX4_gladOf, Cond.code yX4_gladOf cX4_gladOf 3 (some .int), Cond.fieldLink RX4 7 "PunchedTicketModel" "wish" "[I"]
def wsX4_glad : List Cond := .code yX4_glad cX4_glad 1 (some .int) :: ((wsX4_glad_r1 ++ wsX4_glad_r2) ++ wsX40)
def wsX4_falls_r1 : List Cond := [Cond.fieldLink RX4 101 "PunchedTicketModel" "tickets" "I", Cond.methodLink RX4 122 yX4_isTicket, Cond.instanceMethod yX4_isTicket, Cond.selects RX4 yX4_isTicket yX4_isTicket, Cond.initialized RX4, Cond.code yX4_isTicket cX4_isTicket 2 (some .boolean), Cond.methodLink RX4 74 yX4_in, Cond.static yX4_in, Cond.code yX4_in cX4_in 6 (some .boolean), Cond.methodLink RX4 157 yX4_layTrial, Cond.instanceMethod yX4_layTrial, Cond.selects RX4 yX4_layTrial yX4_layTrial, Cond.code yX4_layTrial cX4_layTrial 2 none, Cond.fieldLink RX4 19 "PunchedTicketModel" "now" "[I", Cond.methodLink RX4 173 yX4_passAll, Cond.instanceMethod yX4_passAll, Cond.selects RX4 yX4_passAll yX4_passAll, Cond.code yX4_passAll cX4_passAll 3 (some .int), Cond.methodLink RX4 143 yX4_pass, Cond.instanceMethod yX4_pass, Cond.selects RX4 yX4_pass yX4_pass, Cond.code yX4_pass cX4_pass 9 (some .int), Cond.fieldLink RX4 68 "PunchedTicketModel" "people" "I", Cond.fieldLink RX4 37 "PunchedTicketModel" "by" "[I"]
def wsX4_falls_r2 : List Cond := [Cond.fieldLink RX4 40 "PunchedTicketModel" "low" "[I", Cond.fieldLink RX4 43 "PunchedTicketModel" "high" "[I", Cond.methodLink RX4 118 yX4_goesBy, Cond.instanceMethod yX4_goesBy, Cond.selects RX4 yX4_goesBy yX4_goesBy, Cond.code yX4_goesBy cX4_goesBy 9 (some .int), Cond.fieldLink RX4 13 "PunchedTicketModel" "kind" "[I", Cond.methodLink RX4 125 yX4_use, Cond.instanceMethod yX4_use, Cond.selects RX4 yX4_use yX4_use, Cond.code yX4_use cX4_use 8 none, Cond.methodLink RX4 152 yX4_ones, Cond.static yX4_ones, Cond.code yX4_ones cX4_ones 3 (some .int), Cond.methodLink RX4 169 yX4_loseTrial, Cond.instanceMethod yX4_loseTrial, Cond.selects RX4 yX4_loseTrial yX4_loseTrial, Cond.code yX4_loseTrial cX4_loseTrial 3 none]
def wsX4_falls : List Cond := .code yX4_falls cX4_falls 3 (some .int) :: ((wsX4_falls_r1 ++ wsX4_falls_r2) ++ wsX40)
def wsX4_bestChange_r1 : List Cond := [Cond.fieldLink RX4 101 "PunchedTicketModel" "tickets" "I", Cond.methodLink RX4 182 yX4_glad, Cond.instanceMethod yX4_glad, Cond.selects RX4 yX4_glad yX4_glad, Cond.initialized RX4, Cond.code yX4_glad cX4_glad 1 (some .int), Cond.methodLink RX4 179 yX4_gladWithout, Cond.instanceMethod yX4_gladWithout, Cond.selects RX4 yX4_gladWithout yX4_gladWithout, Cond.code yX4_gladWithout cX4_gladWithout 2 (some .int), Cond.methodLink RX4 157 yX4_layTrial, Cond.instanceMethod yX4_layTrial, Cond.selects RX4 yX4_layTrial yX4_layTrial, Cond.code yX4_layTrial cX4_layTrial 2 none, Cond.fieldLink RX4 19 "PunchedTicketModel" "now" "[I", Cond.methodLink RX4 169 yX4_loseTrial, Cond.instanceMethod yX4_loseTrial, Cond.selects RX4 yX4_loseTrial yX4_loseTrial, Cond.code yX4_loseTrial cX4_loseTrial 3 none, Cond.methodLink RX4 173 yX4_passAll, Cond.instanceMethod yX4_passAll, Cond.selects RX4 yX4_passAll yX4_passAll, Cond.code yX4_passAll cX4_passAll 3 (some .int), Cond.methodLink RX4 143 yX4_pass]
def wsX4_bestChange_r2 : List Cond := [Cond.instanceMethod yX4_pass, Cond.selects RX4 yX4_pass yX4_pass, Cond.code yX4_pass cX4_pass 9 (some .int), Cond.fieldLink RX4 68 "PunchedTicketModel" "people" "I", Cond.fieldLink RX4 37 "PunchedTicketModel" "by" "[I", Cond.fieldLink RX4 40 "PunchedTicketModel" "low" "[I", Cond.fieldLink RX4 43 "PunchedTicketModel" "high" "[I", Cond.methodLink RX4 118 yX4_goesBy, Cond.instanceMethod yX4_goesBy, Cond.selects RX4 yX4_goesBy yX4_goesBy, Cond.code yX4_goesBy cX4_goesBy 9 (some .int), Cond.fieldLink RX4 13 "PunchedTicketModel" "kind" "[I", Cond.methodLink RX4 125 yX4_use, Cond.instanceMethod yX4_use, Cond.selects RX4 yX4_use yX4_use, Cond.code yX4_use cX4_use 8 none, Cond.methodLink RX4 152 yX4_ones, Cond.static yX4_ones, Cond.code yX4_ones cX4_ones 3 (some .int), Cond.methodLink RX4 176 yX4_gladOf, Cond.instanceMethod yX4_gladOf, Cond.selects RX4 yX4_gladOf yX4_gladOf, Cond.code yX4_gladOf cX4_gladOf 3 (some .int), Cond.fieldLink RX4 7 "PunchedTicketModel" "wish" "[I"]
def wsX4_bestChange_r3 : List Cond := [Cond.methodLink RX4 146 yX4_canChange, Cond.instanceMethod yX4_canChange, Cond.selects RX4 yX4_canChange yX4_canChange, Cond.code yX4_canChange cX4_canChange 3 (some .boolean), Cond.methodLink RX4 107 yX4_isGone, Cond.instanceMethod yX4_isGone, Cond.selects RX4 yX4_isGone yX4_isGone, Cond.code yX4_isGone cX4_isGone 2 (some .boolean), Cond.methodLink RX4 114 yX4_holder, Cond.instanceMethod yX4_holder, Cond.selects RX4 yX4_holder yX4_holder, Cond.code yX4_holder cX4_holder 2 (some .int), Cond.methodLink RX4 149 yX4_changeOn, Cond.instanceMethod yX4_changeOn, Cond.selects RX4 yX4_changeOn yX4_changeOn, Cond.code yX4_changeOn cX4_changeOn 7 none]
def wsX4_bestChange : List Cond := .code yX4_bestChange cX4_bestChange 5 (some .int) :: ((wsX4_bestChange_r1 ++ (wsX4_bestChange_r2 ++ wsX4_bestChange_r3)) ++ wsX40)
def wsX4_factorial : List Cond := .code yX4_factorial cX4_factorial 3 (some .int) :: ([])
def wsX4_common : List Cond := .code yX4_common cX4_common 5 (some .int) :: ([])
def wsX4_share_r1 : List Cond := [Cond.fieldLink RX4 101 "PunchedTicketModel" "tickets" "I", Cond.fieldLink RX4 49 "PunchedTicketModel" "glads" "[I", Cond.methodLink RX4 122 yX4_isTicket, Cond.instanceMethod yX4_isTicket, Cond.selects RX4 yX4_isTicket yX4_isTicket, Cond.initialized RX4, Cond.code yX4_isTicket cX4_isTicket 2 (some .boolean), Cond.methodLink RX4 74 yX4_in, Cond.static yX4_in, Cond.code yX4_in cX4_in 6 (some .boolean), Cond.methodLink RX4 107 yX4_isGone, Cond.instanceMethod yX4_isGone, Cond.selects RX4 yX4_isGone yX4_isGone, Cond.code yX4_isGone cX4_isGone 2 (some .boolean), Cond.fieldLink RX4 19 "PunchedTicketModel" "now" "[I", Cond.methodLink RX4 185 yX4_goneNow, Cond.instanceMethod yX4_goneNow, Cond.selects RX4 yX4_goneNow yX4_goneNow, Cond.code yX4_goneNow cX4_goneNow 3 (some .int), Cond.methodLink RX4 152 yX4_ones, Cond.static yX4_ones, Cond.code yX4_ones cX4_ones 3 (some .int), Cond.methodLink RX4 179 yX4_gladWithout, Cond.instanceMethod yX4_gladWithout]
def wsX4_share_r2 : List Cond := [Cond.selects RX4 yX4_gladWithout yX4_gladWithout, Cond.code yX4_gladWithout cX4_gladWithout 2 (some .int), Cond.methodLink RX4 157 yX4_layTrial, Cond.instanceMethod yX4_layTrial, Cond.selects RX4 yX4_layTrial yX4_layTrial, Cond.code yX4_layTrial cX4_layTrial 2 none, Cond.methodLink RX4 169 yX4_loseTrial, Cond.instanceMethod yX4_loseTrial, Cond.selects RX4 yX4_loseTrial yX4_loseTrial, Cond.code yX4_loseTrial cX4_loseTrial 3 none, Cond.methodLink RX4 173 yX4_passAll, Cond.instanceMethod yX4_passAll, Cond.selects RX4 yX4_passAll yX4_passAll, Cond.code yX4_passAll cX4_passAll 3 (some .int), Cond.methodLink RX4 143 yX4_pass, Cond.instanceMethod yX4_pass, Cond.selects RX4 yX4_pass yX4_pass, Cond.code yX4_pass cX4_pass 9 (some .int), Cond.fieldLink RX4 68 "PunchedTicketModel" "people" "I", Cond.fieldLink RX4 37 "PunchedTicketModel" "by" "[I", Cond.fieldLink RX4 40 "PunchedTicketModel" "low" "[I", Cond.fieldLink RX4 43 "PunchedTicketModel" "high" "[I", Cond.methodLink RX4 118 yX4_goesBy, Cond.instanceMethod yX4_goesBy]
def wsX4_share_r3 : List Cond := [Cond.selects RX4 yX4_goesBy yX4_goesBy, Cond.code yX4_goesBy cX4_goesBy 9 (some .int), Cond.fieldLink RX4 13 "PunchedTicketModel" "kind" "[I", Cond.methodLink RX4 125 yX4_use, Cond.instanceMethod yX4_use, Cond.selects RX4 yX4_use yX4_use, Cond.code yX4_use cX4_use 8 none, Cond.methodLink RX4 176 yX4_gladOf, Cond.instanceMethod yX4_gladOf, Cond.selects RX4 yX4_gladOf yX4_gladOf, Cond.code yX4_gladOf cX4_gladOf 3 (some .int), Cond.fieldLink RX4 7 "PunchedTicketModel" "wish" "[I", Cond.methodLink RX4 129 yX4_has, Cond.static yX4_has, Cond.code yX4_has cX4_has 2 (some .boolean), Cond.methodLink RX4 188 yX4_factorial, Cond.static yX4_factorial, Cond.code yX4_factorial cX4_factorial 3 (some .int), Cond.methodLink RX4 191 yX4_common, Cond.static yX4_common, Cond.code yX4_common cX4_common 5 (some .int)]
def wsX4_share : List Cond := .code yX4_share cX4_share 8 (some .int) :: ((wsX4_share_r1 ++ (wsX4_share_r2 ++ wsX4_share_r3)) ++ wsX40)
def wsX4_isBlank_r1 : List Cond := [Cond.fieldLink RX4 101 "PunchedTicketModel" "tickets" "I", Cond.fieldLink RX4 19 "PunchedTicketModel" "now" "[I", Cond.fieldLink RX4 16 "PunchedTicketModel" "seat" "[I", Cond.methodLink RX4 157 yX4_layTrial, Cond.instanceMethod yX4_layTrial, Cond.selects RX4 yX4_layTrial yX4_layTrial, Cond.initialized RX4, Cond.code yX4_layTrial cX4_layTrial 2 none, Cond.methodLink RX4 143 yX4_pass, Cond.instanceMethod yX4_pass, Cond.selects RX4 yX4_pass yX4_pass, Cond.code yX4_pass cX4_pass 9 (some .int), Cond.fieldLink RX4 68 "PunchedTicketModel" "people" "I", Cond.fieldLink RX4 37 "PunchedTicketModel" "by" "[I", Cond.fieldLink RX4 40 "PunchedTicketModel" "low" "[I", Cond.fieldLink RX4 43 "PunchedTicketModel" "high" "[I", Cond.methodLink RX4 118 yX4_goesBy, Cond.instanceMethod yX4_goesBy, Cond.selects RX4 yX4_goesBy yX4_goesBy, Cond.code yX4_goesBy cX4_goesBy 9 (some .int), Cond.fieldLink RX4 13 "PunchedTicketModel" "kind" "[I", Cond.methodLink RX4 125 yX4_use, Cond.instanceMethod yX4_use, Cond.selects RX4 yX4_use yX4_use]
def wsX4_isBlank_r2 : List Cond := [Cond.code yX4_use cX4_use 8 none, Cond.methodLink RX4 163 yX4_isDouble, Cond.instanceMethod yX4_isDouble, Cond.selects RX4 yX4_isDouble yX4_isDouble, Cond.code yX4_isDouble cX4_isDouble 5 (some .boolean), Cond.methodLink RX4 133 yX4_areTogether, Cond.instanceMethod yX4_areTogether, Cond.selects RX4 yX4_areTogether yX4_areTogether, Cond.code yX4_areTogether cX4_areTogether 4 (some .boolean), Cond.methodLink RX4 129 yX4_has, Cond.static yX4_has, Cond.code yX4_has cX4_has 2 (some .boolean)]
def wsX4_isBlank : List Cond := .code yX4_isBlank cX4_isBlank 6 (some .boolean) :: ((wsX4_isBlank_r1 ++ wsX4_isBlank_r2) ++ wsX40)
def wsX4_blank_r1 : List Cond := [Cond.constantLong RX4 194 (9), Cond.fieldLink RX4 13 "PunchedTicketModel" "kind" "[I", Cond.methodLink RX4 111 yX4_isPerson, Cond.instanceMethod yX4_isPerson, Cond.selects RX4 yX4_isPerson yX4_isPerson, Cond.initialized RX4, Cond.code yX4_isPerson cX4_isPerson 2 (some .boolean), Cond.fieldLink RX4 68 "PunchedTicketModel" "people" "I", Cond.methodLink RX4 74 yX4_in, Cond.static yX4_in, Cond.code yX4_in cX4_in 6 (some .boolean), Cond.methodLink RX4 196 yX4_isBlank, Cond.instanceMethod yX4_isBlank, Cond.selects RX4 yX4_isBlank yX4_isBlank, Cond.code yX4_isBlank cX4_isBlank 6 (some .boolean), Cond.fieldLink RX4 101 "PunchedTicketModel" "tickets" "I", Cond.fieldLink RX4 19 "PunchedTicketModel" "now" "[I", Cond.fieldLink RX4 16 "PunchedTicketModel" "seat" "[I", Cond.methodLink RX4 157 yX4_layTrial, Cond.instanceMethod yX4_layTrial, Cond.selects RX4 yX4_layTrial yX4_layTrial, Cond.code yX4_layTrial cX4_layTrial 2 none, Cond.methodLink RX4 143 yX4_pass, Cond.instanceMethod yX4_pass]
def wsX4_blank_r2 : List Cond := [Cond.selects RX4 yX4_pass yX4_pass, Cond.code yX4_pass cX4_pass 9 (some .int), Cond.fieldLink RX4 37 "PunchedTicketModel" "by" "[I", Cond.fieldLink RX4 40 "PunchedTicketModel" "low" "[I", Cond.fieldLink RX4 43 "PunchedTicketModel" "high" "[I", Cond.methodLink RX4 118 yX4_goesBy, Cond.instanceMethod yX4_goesBy, Cond.selects RX4 yX4_goesBy yX4_goesBy, Cond.code yX4_goesBy cX4_goesBy 9 (some .int), Cond.methodLink RX4 125 yX4_use, Cond.instanceMethod yX4_use, Cond.selects RX4 yX4_use yX4_use, Cond.code yX4_use cX4_use 8 none, Cond.methodLink RX4 163 yX4_isDouble, Cond.instanceMethod yX4_isDouble, Cond.selects RX4 yX4_isDouble yX4_isDouble, Cond.code yX4_isDouble cX4_isDouble 5 (some .boolean), Cond.methodLink RX4 133 yX4_areTogether, Cond.instanceMethod yX4_areTogether, Cond.selects RX4 yX4_areTogether yX4_areTogether, Cond.code yX4_areTogether cX4_areTogether 4 (some .boolean), Cond.methodLink RX4 129 yX4_has, Cond.static yX4_has, Cond.code yX4_has cX4_has 2 (some .boolean)]
def wsX4_blank : List Cond := .code yX4_blank cX4_blank 4 (some .int) :: ((wsX4_blank_r1 ++ wsX4_blank_r2) ++ wsX40)
def wsX4_see : List Cond := .code yX4_see cX4_see 4 (some .int) :: ([.constantLong RX4 194 (9), .constantLong RX4 155 (10), .fieldLink RX4 199 "PunchedTicketModel" "seen" "I", .fieldLink RX4 52 "PunchedTicketModel" "seenOf" "[I", .fieldLink RX4 55 "PunchedTicketModel" "seenOn" "[I", .fieldLink RX4 58 "PunchedTicketModel" "seenWhen" "[I", .methodLink RX4 111 yX4_isPerson, .instanceMethod yX4_isPerson, .selects RX4 yX4_isPerson yX4_isPerson, .initialized RX4, .code yX4_isPerson cX4_isPerson 2 (some .boolean), .fieldLink RX4 68 "PunchedTicketModel" "people" "I", .methodLink RX4 74 yX4_in, .static yX4_in, .code yX4_in cX4_in 6 (some .boolean)] ++ wsX40)
def wsX4_unsee : List Cond := .code yX4_unsee cX4_unsee 2 (some .int) :: ([.fieldLink RX4 199 "PunchedTicketModel" "seen" "I"] ++ wsX40)
def wsX4_isSeen : List Cond := .code yX4_isSeen cX4_isSeen 4 (some .boolean) :: ([.fieldLink RX4 199 "PunchedTicketModel" "seen" "I", .fieldLink RX4 58 "PunchedTicketModel" "seenWhen" "[I", .fieldLink RX4 19 "PunchedTicketModel" "now" "[I", .fieldLink RX4 52 "PunchedTicketModel" "seenOf" "[I", .fieldLink RX4 55 "PunchedTicketModel" "seenOn" "[I", .methodLink RX4 111 yX4_isPerson, .instanceMethod yX4_isPerson, .selects RX4 yX4_isPerson yX4_isPerson, .initialized RX4, .code yX4_isPerson cX4_isPerson 2 (some .boolean), .fieldLink RX4 68 "PunchedTicketModel" "people" "I", .methodLink RX4 74 yX4_in, .static yX4_in, .code yX4_in cX4_in 6 (some .boolean)] ++ wsX40)
def wsX4_held_r1 : List Cond := [Cond.fieldLink RX4 68 "PunchedTicketModel" "people" "I", Cond.fieldLink RX4 19 "PunchedTicketModel" "now" "[I", Cond.fieldLink RX4 101 "PunchedTicketModel" "tickets" "I", Cond.methodLink RX4 122 yX4_isTicket, Cond.instanceMethod yX4_isTicket, Cond.selects RX4 yX4_isTicket yX4_isTicket, Cond.initialized RX4, Cond.code yX4_isTicket cX4_isTicket 2 (some .boolean), Cond.methodLink RX4 74 yX4_in, Cond.static yX4_in, Cond.code yX4_in cX4_in 6 (some .boolean), Cond.methodLink RX4 107 yX4_isGone, Cond.instanceMethod yX4_isGone, Cond.selects RX4 yX4_isGone yX4_isGone, Cond.code yX4_isGone cX4_isGone 2 (some .boolean), Cond.methodLink RX4 157 yX4_layTrial, Cond.instanceMethod yX4_layTrial, Cond.selects RX4 yX4_layTrial yX4_layTrial, Cond.code yX4_layTrial cX4_layTrial 2 none, Cond.methodLink RX4 202 yX4_isSeen, Cond.instanceMethod yX4_isSeen, Cond.selects RX4 yX4_isSeen yX4_isSeen, Cond.code yX4_isSeen cX4_isSeen 4 (some .boolean), Cond.fieldLink RX4 199 "PunchedTicketModel" "seen" "I"]
def wsX4_held_r2 : List Cond := [Cond.fieldLink RX4 58 "PunchedTicketModel" "seenWhen" "[I", Cond.fieldLink RX4 52 "PunchedTicketModel" "seenOf" "[I", Cond.fieldLink RX4 55 "PunchedTicketModel" "seenOn" "[I", Cond.methodLink RX4 111 yX4_isPerson, Cond.instanceMethod yX4_isPerson, Cond.selects RX4 yX4_isPerson yX4_isPerson, Cond.code yX4_isPerson cX4_isPerson 2 (some .boolean), Cond.methodLink RX4 143 yX4_pass, Cond.instanceMethod yX4_pass, Cond.selects RX4 yX4_pass yX4_pass, Cond.code yX4_pass cX4_pass 9 (some .int), Cond.fieldLink RX4 37 "PunchedTicketModel" "by" "[I", Cond.fieldLink RX4 40 "PunchedTicketModel" "low" "[I", Cond.fieldLink RX4 43 "PunchedTicketModel" "high" "[I", Cond.methodLink RX4 118 yX4_goesBy, Cond.instanceMethod yX4_goesBy, Cond.selects RX4 yX4_goesBy yX4_goesBy, Cond.code yX4_goesBy cX4_goesBy 9 (some .int), Cond.fieldLink RX4 13 "PunchedTicketModel" "kind" "[I", Cond.methodLink RX4 125 yX4_use, Cond.instanceMethod yX4_use, Cond.selects RX4 yX4_use yX4_use, Cond.code yX4_use cX4_use 8 none]
def wsX4_held : List Cond := .code yX4_held cX4_held 5 (some .int) :: ((wsX4_held_r1 ++ wsX4_held_r2) ++ wsX40)
def wsX4_losses_r1 : List Cond := [Cond.constantLong RX4 194 (9), Cond.constantLong RX4 155 (10), Cond.fieldLink RX4 101 "PunchedTicketModel" "tickets" "I", Cond.fieldLink RX4 19 "PunchedTicketModel" "now" "[I", Cond.methodLink RX4 111 yX4_isPerson, Cond.instanceMethod yX4_isPerson, Cond.selects RX4 yX4_isPerson yX4_isPerson, Cond.initialized RX4, Cond.code yX4_isPerson cX4_isPerson 2 (some .boolean), Cond.fieldLink RX4 68 "PunchedTicketModel" "people" "I", Cond.methodLink RX4 74 yX4_in, Cond.static yX4_in, Cond.code yX4_in cX4_in 6 (some .boolean), Cond.methodLink RX4 185 yX4_goneNow, Cond.instanceMethod yX4_goneNow, Cond.selects RX4 yX4_goneNow yX4_goneNow, Cond.code yX4_goneNow cX4_goneNow 3 (some .int), Cond.methodLink RX4 107 yX4_isGone, Cond.instanceMethod yX4_isGone, Cond.selects RX4 yX4_isGone yX4_isGone, Cond.code yX4_isGone cX4_isGone 2 (some .boolean), Cond.methodLink RX4 129 yX4_has, Cond.static yX4_has, Cond.code yX4_has cX4_has 2 (some .boolean)]
def wsX4_losses_r2 : List Cond := [Cond.methodLink RX4 179 yX4_gladWithout, Cond.instanceMethod yX4_gladWithout, Cond.selects RX4 yX4_gladWithout yX4_gladWithout, Cond.code yX4_gladWithout cX4_gladWithout 2 (some .int), Cond.methodLink RX4 157 yX4_layTrial, Cond.instanceMethod yX4_layTrial, Cond.selects RX4 yX4_layTrial yX4_layTrial, Cond.code yX4_layTrial cX4_layTrial 2 none, Cond.methodLink RX4 169 yX4_loseTrial, Cond.instanceMethod yX4_loseTrial, Cond.selects RX4 yX4_loseTrial yX4_loseTrial, Cond.code yX4_loseTrial cX4_loseTrial 3 none, Cond.methodLink RX4 173 yX4_passAll, Cond.instanceMethod yX4_passAll, Cond.selects RX4 yX4_passAll yX4_passAll, Cond.code yX4_passAll cX4_passAll 3 (some .int), Cond.methodLink RX4 143 yX4_pass, Cond.instanceMethod yX4_pass, Cond.selects RX4 yX4_pass yX4_pass, Cond.code yX4_pass cX4_pass 9 (some .int), Cond.fieldLink RX4 37 "PunchedTicketModel" "by" "[I", Cond.fieldLink RX4 40 "PunchedTicketModel" "low" "[I", Cond.fieldLink RX4 43 "PunchedTicketModel" "high" "[I", Cond.methodLink RX4 118 yX4_goesBy]
def wsX4_losses_r3 : List Cond := [Cond.instanceMethod yX4_goesBy, Cond.selects RX4 yX4_goesBy yX4_goesBy, Cond.code yX4_goesBy cX4_goesBy 9 (some .int), Cond.fieldLink RX4 13 "PunchedTicketModel" "kind" "[I", Cond.methodLink RX4 125 yX4_use, Cond.instanceMethod yX4_use, Cond.selects RX4 yX4_use yX4_use, Cond.code yX4_use cX4_use 8 none, Cond.methodLink RX4 152 yX4_ones, Cond.static yX4_ones, Cond.code yX4_ones cX4_ones 3 (some .int), Cond.methodLink RX4 176 yX4_gladOf, Cond.instanceMethod yX4_gladOf, Cond.selects RX4 yX4_gladOf yX4_gladOf, Cond.code yX4_gladOf cX4_gladOf 3 (some .int), Cond.fieldLink RX4 7 "PunchedTicketModel" "wish" "[I", Cond.methodLink RX4 191 yX4_common, Cond.static yX4_common, Cond.code yX4_common cX4_common 5 (some .int)]
def wsX4_losses : List Cond := .code yX4_losses cX4_losses 11 (some .int) :: ((wsX4_losses_r1 ++ (wsX4_losses_r2 ++ wsX4_losses_r3)) ++ wsX40)
def wsX4_seed : List Cond := .code yX4_seed cX4_seed 5 (some .long) :: ([.fieldLink RX4 206 "PunchedTicketModel" "seed" "J"] ++ wsX40)
def wsX4_years_r1 : List Cond := [Cond.constantLong RX4 210 (30), Cond.fieldLink RX4 206 "PunchedTicketModel" "seed" "J", Cond.constantLong RX4 212 (6364136223846793005), Cond.constantLong RX4 214 (1442695040888963407), Cond.constantLong RX4 216 (64), Cond.methodLink RX4 74 yX4_in, Cond.static yX4_in, Cond.initialized RX4, Cond.code yX4_in cX4_in 6 (some .boolean), Cond.methodLink RX4 179 yX4_gladWithout, Cond.instanceMethod yX4_gladWithout, Cond.selects RX4 yX4_gladWithout yX4_gladWithout, Cond.code yX4_gladWithout cX4_gladWithout 2 (some .int), Cond.fieldLink RX4 101 "PunchedTicketModel" "tickets" "I", Cond.methodLink RX4 157 yX4_layTrial, Cond.instanceMethod yX4_layTrial, Cond.selects RX4 yX4_layTrial yX4_layTrial, Cond.code yX4_layTrial cX4_layTrial 2 none, Cond.fieldLink RX4 19 "PunchedTicketModel" "now" "[I", Cond.methodLink RX4 169 yX4_loseTrial, Cond.instanceMethod yX4_loseTrial, Cond.selects RX4 yX4_loseTrial yX4_loseTrial, Cond.code yX4_loseTrial cX4_loseTrial 3 none, Cond.methodLink RX4 173 yX4_passAll]
def wsX4_years_r2 : List Cond := [Cond.instanceMethod yX4_passAll, Cond.selects RX4 yX4_passAll yX4_passAll, Cond.code yX4_passAll cX4_passAll 3 (some .int), Cond.methodLink RX4 143 yX4_pass, Cond.instanceMethod yX4_pass, Cond.selects RX4 yX4_pass yX4_pass, Cond.code yX4_pass cX4_pass 9 (some .int), Cond.fieldLink RX4 68 "PunchedTicketModel" "people" "I", Cond.fieldLink RX4 37 "PunchedTicketModel" "by" "[I", Cond.fieldLink RX4 40 "PunchedTicketModel" "low" "[I", Cond.fieldLink RX4 43 "PunchedTicketModel" "high" "[I", Cond.methodLink RX4 118 yX4_goesBy, Cond.instanceMethod yX4_goesBy, Cond.selects RX4 yX4_goesBy yX4_goesBy, Cond.code yX4_goesBy cX4_goesBy 9 (some .int), Cond.fieldLink RX4 13 "PunchedTicketModel" "kind" "[I", Cond.methodLink RX4 125 yX4_use, Cond.instanceMethod yX4_use, Cond.selects RX4 yX4_use yX4_use, Cond.code yX4_use cX4_use 8 none, Cond.methodLink RX4 152 yX4_ones, Cond.static yX4_ones, Cond.code yX4_ones cX4_ones 3 (some .int), Cond.methodLink RX4 176 yX4_gladOf]
def wsX4_years_r3 : List Cond := [Cond.instanceMethod yX4_gladOf, Cond.selects RX4 yX4_gladOf yX4_gladOf, Cond.code yX4_gladOf cX4_gladOf 3 (some .int), Cond.fieldLink RX4 7 "PunchedTicketModel" "wish" "[I"]
def wsX4_years : List Cond := .code yX4_years cX4_years 4 (some .int) :: ((wsX4_years_r1 ++ (wsX4_years_r2 ++ wsX4_years_r3)) ++ wsX40)
def wsX4_keep : List Cond := .code yX4_keep cX4_keep 3 (some .int) :: ([.fieldLink RX4 61 "PunchedTicketModel" "isKept" "[Z", .fieldLink RX4 65 "PunchedTicketModel" "kept" "[I", .fieldLink RX4 19 "PunchedTicketModel" "now" "[I", .methodLink RX4 74 yX4_in, .static yX4_in, .initialized RX4, .code yX4_in cX4_in 6 (some .boolean)] ++ wsX40)
def wsX4_again : List Cond := .code yX4_again cX4_again 3 (some .int) :: ([.fieldLink RX4 61 "PunchedTicketModel" "isKept" "[Z", .fieldLink RX4 19 "PunchedTicketModel" "now" "[I", .fieldLink RX4 65 "PunchedTicketModel" "kept" "[I", .fieldLink RX4 104 "PunchedTicketModel" "acts" "I", .methodLink RX4 74 yX4_in, .static yX4_in, .initialized RX4, .code yX4_in cX4_in 6 (some .boolean)] ++ wsX40)
def wsX4_count : List Cond := .code yX4_count cX4_count 4 (some .int) :: ([.fieldLink RX4 68 "PunchedTicketModel" "people" "I", .fieldLink RX4 19 "PunchedTicketModel" "now" "[I", .fieldLink RX4 7 "PunchedTicketModel" "wish" "[I", .fieldLink RX4 78 "PunchedTicketModel" "length" "I", .fieldLink RX4 101 "PunchedTicketModel" "tickets" "I", .fieldLink RX4 104 "PunchedTicketModel" "acts" "I", .fieldLink RX4 199 "PunchedTicketModel" "seen" "I", .methodLink RX4 185 yX4_goneNow, .instanceMethod yX4_goneNow, .selects RX4 yX4_goneNow yX4_goneNow, .initialized RX4, .code yX4_goneNow cX4_goneNow 3 (some .int), .methodLink RX4 107 yX4_isGone, .instanceMethod yX4_isGone, .selects RX4 yX4_isGone yX4_isGone, .code yX4_isGone cX4_isGone 2 (some .boolean)] ++ wsX40)
def wsJ9_abs_0f7a4 : List Cond := .code yJ9_abs_0f7a4 cJ9_abs_0f7a4 1 (some .int) :: ([])
def wsJ9_max_7cf53 : List Cond := .code yJ9_max_7cf53 cJ9_max_7cf53 2 (some .int) :: ([])
def wsJ9_min_7cf53 : List Cond := .code yJ9_min_7cf53 cJ9_min_7cf53 2 (some .int) :: ([])
def wsL_law_r1 : List Cond := [Cond.classLink RL 7 RX3, Cond.instantiable RX3 17, Cond.initialized RX3, Cond.classLink RL 10 RX4, Cond.instantiable RX4 30, Cond.initialized RX4, Cond.constantLong RL 116 (4294967295), Cond.methodLink RL 9 yX3_init, Cond.instanceMethod yX3_init, Cond.code yX3_init cX3_init 1 none, Cond.methodLink RX3 3 objectInit, Cond.instanceMethod objectInit, Cond.code objectInit ⟨#[0xb1]⟩ 1 none, Cond.arrayClass .int, Cond.fieldLink RX3 9 "PunchedTicket" "text" "[I", Cond.fieldLink RX3 13 "PunchedTicket" "letters" "I", Cond.classLink RX3 17 RX0, Cond.instantiable RX0 10, Cond.initialized RX0, Cond.fieldLink RX3 20 "PunchedTicket" "told" "LPunchedTicket$Line;", Cond.fieldLink RX3 24 "PunchedTicket" "draft" "LPunchedTicket$Line;", Cond.classLink RX3 27 RX1, Cond.instantiable RX1 8, Cond.initialized RX1]
def wsL_law_r2 : List Cond := [Cond.fieldLink RX3 32 "PunchedTicket" "now" "LPunchedTicket$Moment;", Cond.fieldLink RX3 36 "PunchedTicket" "acts" "[LPunchedTicket$Moment;", Cond.fieldLink RX3 40 "PunchedTicket" "firstAct" "I", Cond.fieldLink RX3 43 "PunchedTicket" "actsInRow" "I", Cond.fieldLink RX3 46 "PunchedTicket" "kept" "[LPunchedTicket$Moment;", Cond.fieldLink RX3 49 "PunchedTicket" "keptSlots" "I", Cond.fieldLink RX3 52 "PunchedTicket" "seenPerson" "[I", Cond.fieldLink RX3 55 "PunchedTicket" "seenStop" "[I", Cond.fieldLink RX3 58 "PunchedTicket" "seenDay" "[I", Cond.fieldLink RX3 61 "PunchedTicket" "seenCount" "I", Cond.fieldLink RX3 64 "PunchedTicket" "theSeed" "J", Cond.classLink RX3 68 RX2, Cond.instantiable RX2 3, Cond.initialized RX2, Cond.fieldLink RX3 71 "PunchedTicket" "trial" "LPunchedTicket$Trial;", Cond.fieldLink RX3 75 "PunchedTicket" "idleAt" "[I", Cond.instanceMethod yX0_init, Cond.code yX0_init cX0_init 1 none, Cond.methodLink RX0 3 objectInit, Cond.fieldLink RX0 9 "PunchedTicket$Line" "people" "I", Cond.fieldLink RX0 15 "PunchedTicket$Line" "tickets" "I", Cond.fieldLink RX0 18 "PunchedTicket$Line" "home" "[I", Cond.fieldLink RX0 22 "PunchedTicket$Line" "liked" "[I", Cond.fieldLink RX0 25 "PunchedTicket$Line" "kind" "[I"]
def wsL_law_r3 : List Cond := [Cond.fieldLink RX0 28 "PunchedTicket$Line" "forDay" "[I", Cond.fieldLink RX0 31 "PunchedTicket$Line" "from" "[I", Cond.fieldLink RX0 34 "PunchedTicket$Line" "to" "[I", Cond.fieldLink RX0 37 "PunchedTicket$Line" "seat" "[I", Cond.fieldLink RX0 40 "PunchedTicket$Line" "holder" "[I", Cond.methodLink RX3 29 yX1_init, Cond.instanceMethod yX1_init, Cond.code yX1_init cX1_init 2 none, Cond.methodLink RX1 3 objectInit, Cond.fieldLink RX1 9 "PunchedTicket$Moment" "day" "I", Cond.fieldLink RX1 15 "PunchedTicket$Moment" "tickets" "I", Cond.fieldLink RX1 18 "PunchedTicket$Moment" "returns" "I", Cond.fieldLink RX1 21 "PunchedTicket$Moment" "gone" "I", Cond.fieldLink RX1 24 "PunchedTicket$Moment" "at" "[I", Cond.fieldLink RX1 28 "PunchedTicket$Moment" "forDay" "[I", Cond.fieldLink RX1 31 "PunchedTicket$Moment" "holder" "[I", Cond.fieldLink RX1 34 "PunchedTicket$Moment" "line" "LPunchedTicket$Line;", Cond.methodLink RX3 70 yX2_init, Cond.instanceMethod yX2_init, Cond.code yX2_init cX2_init 2 none, Cond.methodLink RX2 3 objectInit, Cond.fieldLink RX2 9 "PunchedTicket$Trial" "rides" "[I", Cond.fieldLink RX2 15 "PunchedTicket$Trial" "line" "LPunchedTicket$Line;", Cond.classLink RX2 19 RX1]
def wsL_law_r4 : List Cond := [Cond.fieldLink RX2 24 "PunchedTicket$Trial" "moment" "LPunchedTicket$Moment;", Cond.methodLink RX2 21 yX1_init, Cond.methodLink RL 12 yX4_init, Cond.instanceMethod yX4_init, Cond.code yX4_init cX4_init 1 none, Cond.methodLink RX4 1 objectInit, Cond.fieldLink RX4 7 "PunchedTicketModel" "wish" "[I", Cond.fieldLink RX4 13 "PunchedTicketModel" "kind" "[I", Cond.fieldLink RX4 16 "PunchedTicketModel" "seat" "[I", Cond.fieldLink RX4 19 "PunchedTicketModel" "now" "[I", Cond.fieldLink RX4 22 "PunchedTicketModel" "readHome" "[I", Cond.fieldLink RX4 25 "PunchedTicketModel" "readWish" "[I", Cond.fieldLink RX4 28 "PunchedTicketModel" "readKind" "[I", Cond.fieldLink RX4 31 "PunchedTicketModel" "readTicket" "[I", Cond.fieldLink RX4 34 "PunchedTicketModel" "text" "[I", Cond.fieldLink RX4 37 "PunchedTicketModel" "by" "[I", Cond.fieldLink RX4 40 "PunchedTicketModel" "low" "[I", Cond.fieldLink RX4 43 "PunchedTicketModel" "high" "[I", Cond.fieldLink RX4 46 "PunchedTicketModel" "row" "[I", Cond.fieldLink RX4 49 "PunchedTicketModel" "glads" "[I", Cond.fieldLink RX4 52 "PunchedTicketModel" "seenOf" "[I", Cond.fieldLink RX4 55 "PunchedTicketModel" "seenOn" "[I", Cond.fieldLink RX4 58 "PunchedTicketModel" "seenWhen" "[I", Cond.arrayClass .boolean]
def wsL_law_r5 : List Cond := [Cond.fieldLink RX4 61 "PunchedTicketModel" "isKept" "[Z", Cond.fieldLink RX4 65 "PunchedTicketModel" "kept" "[I", Cond.fieldLink RX4 68 "PunchedTicketModel" "people" "I", Cond.methodLink RL 13 yX3_write, Cond.instanceMethod yX3_write, Cond.selects RX3 yX3_write yX3_write, Cond.code yX3_write cX3_write 2 (some .int), Cond.methodLink RL 17 yX4_write, Cond.instanceMethod yX4_write, Cond.selects RX4 yX4_write yX4_write, Cond.code yX4_write cX4_write 2 (some .int), Cond.constantLong RX4 72 (255), Cond.fieldLink RX4 78 "PunchedTicketModel" "length" "I", Cond.methodLink RX4 74 yX4_in, Cond.static yX4_in, Cond.code yX4_in cX4_in 6 (some .boolean), Cond.methodLink RL 18 yX3_wipe, Cond.instanceMethod yX3_wipe, Cond.selects RX3 yX3_wipe yX3_wipe, Cond.code yX3_wipe cX3_wipe 2 (some .int), Cond.methodLink RL 22 yX4_wipe, Cond.instanceMethod yX4_wipe, Cond.selects RX4 yX4_wipe yX4_wipe, Cond.code yX4_wipe cX4_wipe 2 (some .int)]
def wsL_law_r6 : List Cond := [Cond.methodLink RL 23 yX3_fault, Cond.instanceMethod yX3_fault, Cond.selects RX3 yX3_fault yX3_fault, Cond.code yX3_fault cX3_fault 1 (some .int), Cond.methodLink RX3 78 yX0_read, Cond.instanceMethod yX0_read, Cond.selects RX0 yX0_read yX0_read, Cond.code yX0_read cX0_read 6 (some .int), Cond.methodLink RX0 49 yX0_partSize, Cond.instanceMethod yX0_partSize, Cond.selects RX0 yX0_partSize yX0_partSize, Cond.code yX0_partSize cX0_partSize 2 (some .int), Cond.methodLink RX0 53 yX0_partFault, Cond.instanceMethod yX0_partFault, Cond.selects RX0 yX0_partFault yX0_partFault, Cond.code yX0_partFault cX0_partFault 7 (some .int), Cond.methodLink RX0 61 yX0_figureFits, Cond.instanceMethod yX0_figureFits, Cond.selects RX0 yX0_figureFits yX0_figureFits, Cond.code yX0_figureFits cX0_figureFits 6 (some .boolean), Cond.methodLink RX0 57 yX0_takePart, Cond.instanceMethod yX0_takePart, Cond.selects RX0 yX0_takePart yX0_takePart, Cond.code yX0_takePart cX0_takePart 4 none]
def wsL_law_r7 : List Cond := [Cond.methodLink RL 26 yX4_fault, Cond.instanceMethod yX4_fault, Cond.selects RX4 yX4_fault yX4_fault, Cond.code yX4_fault cX4_fault 1 (some .int), Cond.methodLink RX4 97 yX4_readText, Cond.instanceMethod yX4_readText, Cond.selects RX4 yX4_readText yX4_readText, Cond.code yX4_readText cX4_readText 2 (some .int), Cond.fieldLink RX4 84 "PunchedTicketModel" "at" "I", Cond.fieldLink RX4 81 "PunchedTicketModel" "faultAt" "I", Cond.fieldLink RX4 87 "PunchedTicketModel" "readPeople" "I", Cond.fieldLink RX4 90 "PunchedTicketModel" "readTickets" "I", Cond.methodLink RX4 93 yX4_figure, Cond.instanceMethod yX4_figure, Cond.selects RX4 yX4_figure yX4_figure, Cond.code yX4_figure cX4_figure 4 (some .int), Cond.methodLink RL 27 yX3_line, Cond.instanceMethod yX3_line, Cond.selects RX3 yX3_line yX3_line, Cond.code yX3_line cX3_line 1 (some .int), Cond.fieldLink RX3 91 "PunchedTicket$Line" "people" "I", Cond.fieldLink RX3 94 "PunchedTicket$Line" "tickets" "I", Cond.methodLink RX3 82 yX0_copy, Cond.instanceMethod yX0_copy]
def wsL_law_r8 : List Cond := [Cond.selects RX0 yX0_copy yX0_copy, Cond.code yX0_copy cX0_copy 2 none, Cond.methodLink RX0 43 arraycopyName, Cond.native arraycopyName, Cond.static arraycopyName, Cond.initialized "java/lang/System", Cond.methodLink RX3 85 yX1_begin, Cond.instanceMethod yX1_begin, Cond.selects RX1 yX1_begin yX1_begin, Cond.code yX1_begin cX1_begin 1 none, Cond.fieldLink RX1 38 "PunchedTicket$Line" "tickets" "I", Cond.fieldLink RX1 41 "PunchedTicket$Line" "home" "[I", Cond.methodLink RX1 44 arraycopyName, Cond.fieldLink RX1 50 "PunchedTicket$Line" "forDay" "[I", Cond.fieldLink RX1 51 "PunchedTicket$Line" "holder" "[I", Cond.methodLink RX3 88 yX3_forgetActs, Cond.instanceMethod yX3_forgetActs, Cond.selects RX3 yX3_forgetActs yX3_forgetActs, Cond.code yX3_forgetActs cX3_forgetActs 1 none, Cond.methodLink RL 30 yX4_line, Cond.instanceMethod yX4_line, Cond.selects RX4 yX4_line yX4_line, Cond.code yX4_line cX4_line 3 (some .int), Cond.fieldLink RX4 101 "PunchedTicketModel" "tickets" "I"]
def wsL_law_r9 : List Cond := [Cond.fieldLink RX4 104 "PunchedTicketModel" "acts" "I", Cond.methodLink RL 31 yX3_person, Cond.instanceMethod yX3_person, Cond.selects RX3 yX3_person yX3_person, Cond.code yX3_person cX3_person 3 (some .int), Cond.fieldLink RX3 101 "PunchedTicket$Moment" "at" "[I", Cond.fieldLink RX3 104 "PunchedTicket$Line" "liked" "[I", Cond.fieldLink RX3 107 "PunchedTicket$Line" "kind" "[I", Cond.methodLink RX3 97 yX0_hasPerson, Cond.instanceMethod yX0_hasPerson, Cond.selects RX0 yX0_hasPerson yX0_hasPerson, Cond.code yX0_hasPerson cX0_hasPerson 2 (some .boolean), Cond.methodLink RX3 110 yX1_heldBy, Cond.instanceMethod yX1_heldBy, Cond.selects RX1 yX1_heldBy yX1_heldBy, Cond.code yX1_heldBy cX1_heldBy 4 (some .int), Cond.methodLink RX1 62 yX1_isGone, Cond.instanceMethod yX1_isGone, Cond.selects RX1 yX1_isGone yX1_isGone, Cond.code yX1_isGone cX1_isGone 2 (some .boolean), Cond.methodLink RX3 114 yX3_rideOf, Cond.instanceMethod yX3_rideOf, Cond.selects RX3 yX3_rideOf yX3_rideOf, Cond.code yX3_rideOf cX3_rideOf 2 (some .int)]
def wsL_law_r10 : List Cond := [Cond.fieldLink RX3 147 "PunchedTicket$Trial" "rides" "[I", Cond.methodLink RX3 269 yX1_findRides, Cond.instanceMethod yX1_findRides, Cond.selects RX1 yX1_findRides yX1_findRides, Cond.code yX1_findRides cX1_findRides 4 none, Cond.methodLink RX1 71 yX0_hasPerson, Cond.methodLink RX1 74 yX1_canTake, Cond.instanceMethod yX1_canTake, Cond.selects RX1 yX1_canTake yX1_canTake, Cond.code yX1_canTake cX1_canTake 5 (some .boolean), Cond.fieldLink RX1 56 "PunchedTicket$Line" "to" "[I", Cond.fieldLink RX1 59 "PunchedTicket$Line" "from" "[I", Cond.fieldLink RX1 78 "PunchedTicket$Line" "kind" "[I", Cond.methodLink RL 35 yX4_person, Cond.instanceMethod yX4_person, Cond.selects RX4 yX4_person yX4_person, Cond.code yX4_person cX4_person 5 (some .int), Cond.methodLink RX4 111 yX4_isPerson, Cond.instanceMethod yX4_isPerson, Cond.selects RX4 yX4_isPerson yX4_isPerson, Cond.code yX4_isPerson cX4_isPerson 2 (some .boolean), Cond.methodLink RX4 107 yX4_isGone, Cond.instanceMethod yX4_isGone, Cond.selects RX4 yX4_isGone yX4_isGone]
def wsL_law_r11 : List Cond := [Cond.code yX4_isGone cX4_isGone 2 (some .boolean), Cond.methodLink RX4 114 yX4_holder, Cond.instanceMethod yX4_holder, Cond.selects RX4 yX4_holder yX4_holder, Cond.code yX4_holder cX4_holder 2 (some .int), Cond.methodLink RX4 118 yX4_goesBy, Cond.instanceMethod yX4_goesBy, Cond.selects RX4 yX4_goesBy yX4_goesBy, Cond.code yX4_goesBy cX4_goesBy 9 (some .int), Cond.methodLink RL 36 yX3_ticket, Cond.instanceMethod yX3_ticket, Cond.selects RX3 yX3_ticket yX3_ticket, Cond.code yX3_ticket cX3_ticket 3 (some .int), Cond.fieldLink RX3 120 "PunchedTicket$Moment" "forDay" "[I", Cond.fieldLink RX3 129 "PunchedTicket$Line" "seat" "[I", Cond.fieldLink RX3 132 "PunchedTicket$Moment" "holder" "[I", Cond.methodLink RX3 117 yX1_hasTicket, Cond.instanceMethod yX1_hasTicket, Cond.selects RX1 yX1_hasTicket yX1_hasTicket, Cond.code yX1_hasTicket cX1_hasTicket 2 (some .boolean), Cond.methodLink RX3 123 yX1_from, Cond.instanceMethod yX1_from, Cond.selects RX1 yX1_from yX1_from, Cond.code yX1_from cX1_from 2 (some .int)]
def wsL_law_r12 : List Cond := [Cond.methodLink RX1 52 yX1_isReturn, Cond.instanceMethod yX1_isReturn, Cond.selects RX1 yX1_isReturn yX1_isReturn, Cond.code yX1_isReturn cX1_isReturn 2 (some .boolean), Cond.methodLink RX3 126 yX1_to, Cond.instanceMethod yX1_to, Cond.selects RX1 yX1_to yX1_to, Cond.code yX1_to cX1_to 2 (some .int), Cond.methodLink RX3 135 yX1_isReturn, Cond.methodLink RX3 138 yX1_isGone, Cond.methodLink RL 39 yX4_ticket, Cond.instanceMethod yX4_ticket, Cond.selects RX4 yX4_ticket yX4_ticket, Cond.code yX4_ticket cX4_ticket 4 (some .int), Cond.methodLink RX4 122 yX4_isTicket, Cond.instanceMethod yX4_isTicket, Cond.selects RX4 yX4_isTicket yX4_isTicket, Cond.code yX4_isTicket cX4_isTicket 2 (some .boolean), Cond.methodLink RL 40 yX3_day, Cond.instanceMethod yX3_day, Cond.selects RX3 yX3_day yX3_day, Cond.code yX3_day cX3_day 1 (some .int), Cond.fieldLink RX3 141 "PunchedTicket$Moment" "day" "I", Cond.methodLink RX3 144 yX3_rememberAct]
def wsL_law_r13 : List Cond := [Cond.instanceMethod yX3_rememberAct, Cond.selects RX3 yX3_rememberAct yX3_rememberAct, Cond.code yX3_rememberAct cX3_rememberAct 1 none, Cond.methodLink RX3 262 yX3_keepIn, Cond.instanceMethod yX3_keepIn, Cond.selects RX3 yX3_keepIn yX3_keepIn, Cond.code yX3_keepIn cX3_keepIn 4 none, Cond.methodLink RX3 168 yX1_copy, Cond.instanceMethod yX1_copy, Cond.selects RX1 yX1_copy yX1_copy, Cond.code yX1_copy cX1_copy 2 none, Cond.methodLink RX3 150 yX1_passDay, Cond.instanceMethod yX1_passDay, Cond.selects RX1 yX1_passDay yX1_passDay, Cond.code yX1_passDay cX1_passDay 5 (some .int), Cond.fieldLink RX1 65 "PunchedTicket$Line" "people" "I", Cond.methodLink RX1 81 yX1_findRides, Cond.methodLink RX1 85 yX1_hasTicket, Cond.methodLink RX1 88 yX1_to, Cond.methodLink RX1 91 yX1_useTicket, Cond.instanceMethod yX1_useTicket, Cond.selects RX1 yX1_useTicket yX1_useTicket, Cond.code yX1_useTicket cX1_useTicket 4 none, Cond.methodLink RL 43 yX4_day]
def wsL_law_r14 : List Cond := [Cond.instanceMethod yX4_day, Cond.selects RX4 yX4_day yX4_day, Cond.code yX4_day cX4_day 1 (some .int), Cond.methodLink RX4 140 yX4_keepAct, Cond.instanceMethod yX4_keepAct, Cond.selects RX4 yX4_keepAct yX4_keepAct, Cond.code yX4_keepAct cX4_keepAct 2 none, Cond.fieldLink RX4 137 "PunchedTicketModel" "next" "I", Cond.methodLink RX4 143 yX4_pass, Cond.instanceMethod yX4_pass, Cond.selects RX4 yX4_pass yX4_pass, Cond.code yX4_pass cX4_pass 9 (some .int), Cond.methodLink RX4 125 yX4_use, Cond.instanceMethod yX4_use, Cond.selects RX4 yX4_use yX4_use, Cond.code yX4_use cX4_use 8 none, Cond.methodLink RL 44 yX3_give, Cond.instanceMethod yX3_give, Cond.selects RX3 yX3_give yX3_give, Cond.code yX3_give cX3_give 4 (some .int), Cond.methodLink RX3 154 yX1_canBeGiven, Cond.instanceMethod yX1_canBeGiven, Cond.selects RX1 yX1_canBeGiven yX1_canBeGiven, Cond.code yX1_canBeGiven cX1_canBeGiven 3 (some .boolean)]
def wsL_law_r15 : List Cond := [Cond.methodLink RL 47 yX4_give, Cond.instanceMethod yX4_give, Cond.selects RX4 yX4_give yX4_give, Cond.code yX4_give cX4_give 4 (some .int), Cond.methodLink RL 48 yX3_lose, Cond.instanceMethod yX3_lose, Cond.selects RX3 yX3_lose yX3_lose, Cond.code yX3_lose cX3_lose 2 (some .int), Cond.fieldLink RX3 158 "PunchedTicket$Moment" "gone" "I", Cond.methodLink RL 51 yX4_lose, Cond.instanceMethod yX4_lose, Cond.selects RX4 yX4_lose yX4_lose, Cond.code yX4_lose cX4_lose 2 (some .int), Cond.methodLink RL 52 yX3_change, Cond.instanceMethod yX3_change, Cond.selects RX3 yX3_change yX3_change, Cond.code yX3_change cX3_change 3 (some .int), Cond.methodLink RX3 161 yX1_canBeChanged, Cond.instanceMethod yX1_canBeChanged, Cond.selects RX1 yX1_canBeChanged yX1_canBeChanged, Cond.code yX1_canBeChanged cX1_canBeChanged 3 (some .boolean), Cond.methodLink RX3 164 yX1_swapHolders, Cond.instanceMethod yX1_swapHolders, Cond.selects RX1 yX1_swapHolders yX1_swapHolders]
def wsL_law_r16 : List Cond := [Cond.code yX1_swapHolders cX1_swapHolders 4 none, Cond.methodLink RL 55 yX4_change, Cond.instanceMethod yX4_change, Cond.selects RX4 yX4_change yX4_change, Cond.code yX4_change cX4_change 3 (some .int), Cond.methodLink RX4 146 yX4_canChange, Cond.instanceMethod yX4_canChange, Cond.selects RX4 yX4_canChange yX4_canChange, Cond.code yX4_canChange cX4_canChange 3 (some .boolean), Cond.methodLink RX4 149 yX4_changeOn, Cond.instanceMethod yX4_changeOn, Cond.selects RX4 yX4_changeOn yX4_changeOn, Cond.code yX4_changeOn cX4_changeOn 7 none, Cond.methodLink RL 56 yX3_undo, Cond.instanceMethod yX3_undo, Cond.selects RX3 yX3_undo yX3_undo, Cond.code yX3_undo cX3_undo 2 (some .int), Cond.methodLink RL 59 yX4_undo, Cond.instanceMethod yX4_undo, Cond.selects RX4 yX4_undo yX4_undo, Cond.code yX4_undo cX4_undo 2 (some .int), Cond.methodLink RL 60 yX3_where, Cond.instanceMethod yX3_where, Cond.selects RX3 yX3_where yX3_where]
def wsL_law_r17 : List Cond := [Cond.code yX3_where cX3_where 3 (some .int), Cond.fieldLink RX3 178 "PunchedTicket$Trial" "moment" "LPunchedTicket$Moment;", Cond.methodLink RX3 171 yX2_start, Cond.instanceMethod yX2_start, Cond.selects RX2 yX2_start yX2_start, Cond.code yX2_start cX2_start 2 none, Cond.methodLink RX2 28 yX1_copy, Cond.methodLink RX3 174 yX2_passDaysTo, Cond.instanceMethod yX2_passDaysTo, Cond.selects RX2 yX2_passDaysTo yX2_passDaysTo, Cond.code yX2_passDaysTo cX2_passDaysTo 3 none, Cond.fieldLink RX2 51 "PunchedTicket$Moment" "day" "I", Cond.methodLink RX2 54 yX1_passDay, Cond.methodLink RL 63 yX4_where, Cond.instanceMethod yX4_where, Cond.selects RX4 yX4_where yX4_where, Cond.code yX4_where cX4_where 3 (some .int), Cond.constantLong RX4 155 (10), Cond.methodLink RX4 157 yX4_layTrial, Cond.instanceMethod yX4_layTrial, Cond.selects RX4 yX4_layTrial yX4_layTrial, Cond.code yX4_layTrial cX4_layTrial 2 none, Cond.methodLink RL 64 yX3_meet, Cond.instanceMethod yX3_meet]
def wsL_law_r18 : List Cond := [Cond.selects RX3 yX3_meet yX3_meet, Cond.code yX3_meet cX3_meet 4 (some .int), Cond.methodLink RX3 181 yX3_pairRefusal, Cond.instanceMethod yX3_pairRefusal, Cond.selects RX3 yX3_pairRefusal yX3_pairRefusal, Cond.code yX3_pairRefusal cX3_pairRefusal 3 (some .int), Cond.methodLink RX3 185 yX2_firstMeeting, Cond.instanceMethod yX2_firstMeeting, Cond.selects RX2 yX2_firstMeeting yX2_firstMeeting, Cond.code yX2_firstMeeting cX2_firstMeeting 4 (some .int), Cond.methodLink RX2 72 yX2_wentTogether, Cond.instanceMethod yX2_wentTogether, Cond.selects RX2 yX2_wentTogether yX2_wentTogether, Cond.code yX2_wentTogether cX2_wentTogether 5 (some .boolean), Cond.methodLink RX2 86 Lib.Math.max.name, Cond.static Lib.Math.max.name, Cond.initialized "java/lang/Math", Cond.code Lib.Math.max.name Lib.Math.max.code 2 (some .int), Cond.methodLink RX2 95 Lib.Math.min.name, Cond.static Lib.Math.min.name, Cond.code Lib.Math.min.name Lib.Math.min.code 2 (some .int), Cond.methodLink RX2 79 yX1_hasTicket, Cond.methodLink RX2 83 yX2_lowEnd, Cond.instanceMethod yX2_lowEnd]
def wsL_law_r19 : List Cond := [Cond.selects RX2 yX2_lowEnd yX2_lowEnd, Cond.code yX2_lowEnd cX2_lowEnd 2 (some .int), Cond.fieldLink RX2 38 "PunchedTicket$Line" "from" "[I", Cond.fieldLink RX2 41 "PunchedTicket$Line" "to" "[I", Cond.methodLink RX2 92 yX2_highEnd, Cond.instanceMethod yX2_highEnd, Cond.selects RX2 yX2_highEnd yX2_highEnd, Cond.code yX2_highEnd cX2_highEnd 2 (some .int), Cond.methodLink RL 67 yX4_meet, Cond.instanceMethod yX4_meet, Cond.selects RX4 yX4_meet yX4_meet, Cond.code yX4_meet cX4_meet 3 (some .int), Cond.methodLink RX4 160 yX4_meetOf, Cond.instanceMethod yX4_meetOf, Cond.selects RX4 yX4_meetOf yX4_meetOf, Cond.code yX4_meetOf cX4_meetOf 3 (some .int), Cond.methodLink RX4 133 yX4_areTogether, Cond.instanceMethod yX4_areTogether, Cond.selects RX4 yX4_areTogether yX4_areTogether, Cond.code yX4_areTogether cX4_areTogether 4 (some .boolean), Cond.methodLink RX4 129 yX4_has, Cond.static yX4_has, Cond.code yX4_has cX4_has 2 (some .boolean), Cond.methodLink RL 68 yX3_twoSeats]
def wsL_law_r20 : List Cond := [Cond.instanceMethod yX3_twoSeats, Cond.selects RX3 yX3_twoSeats yX3_twoSeats, Cond.code yX3_twoSeats cX3_twoSeats 1 (some .int), Cond.methodLink RX3 188 yX2_firstDouble, Cond.instanceMethod yX2_firstDouble, Cond.selects RX2 yX2_firstDouble yX2_firstDouble, Cond.code yX2_firstDouble cX2_firstDouble 2 (some .int), Cond.methodLink RX2 76 yX2_barredSeats, Cond.instanceMethod yX2_barredSeats, Cond.selects RX2 yX2_barredSeats yX2_barredSeats, Cond.code yX2_barredSeats cX2_barredSeats 5 (some .int), Cond.fieldLink RX2 98 "PunchedTicket$Line" "people" "I", Cond.methodLink RX2 101 yX2_barredByPair, Cond.instanceMethod yX2_barredByPair, Cond.selects RX2 yX2_barredByPair yX2_barredByPair, Cond.code yX2_barredByPair cX2_barredByPair 4 (some .int), Cond.fieldLink RX2 105 "PunchedTicket$Line" "seat" "[I", Cond.methodLink RL 71 yX4_twoSeats, Cond.instanceMethod yX4_twoSeats, Cond.selects RX4 yX4_twoSeats yX4_twoSeats, Cond.code yX4_twoSeats cX4_twoSeats 1 (some .int), Cond.methodLink RX4 163 yX4_isDouble, Cond.instanceMethod yX4_isDouble, Cond.selects RX4 yX4_isDouble yX4_isDouble]
def wsL_law_r21 : List Cond := [Cond.code yX4_isDouble cX4_isDouble 5 (some .boolean), Cond.methodLink RL 72 yX3_fewest, Cond.instanceMethod yX3_fewest, Cond.selects RX3 yX3_fewest yX3_fewest, Cond.code yX3_fewest cX3_fewest 7 (some .int), Cond.methodLink RX3 192 yX3_firstGift, Cond.instanceMethod yX3_firstGift, Cond.selects RX3 yX3_firstGift yX3_firstGift, Cond.code yX3_firstGift cX3_firstGift 9 (some .int), Cond.methodLink RX3 196 yX3_firstTwoGifts, Cond.instanceMethod yX3_firstTwoGifts, Cond.selects RX3 yX3_firstTwoGifts yX3_firstTwoGifts, Cond.code yX3_firstTwoGifts cX3_firstTwoGifts 6 (some .int), Cond.methodLink RL 76 yX4_fewest, Cond.instanceMethod yX4_fewest, Cond.selects RX4 yX4_fewest yX4_fewest, Cond.code yX4_fewest cX4_fewest 5 (some .int), Cond.methodLink RX4 166 yX4_giveTrial, Cond.instanceMethod yX4_giveTrial, Cond.selects RX4 yX4_giveTrial yX4_giveTrial, Cond.code yX4_giveTrial cX4_giveTrial 4 (some .boolean), Cond.methodLink RL 77 yX3_glad, Cond.instanceMethod yX3_glad, Cond.selects RX3 yX3_glad yX3_glad]
def wsL_law_r22 : List Cond := [Cond.code yX3_glad cX3_glad 1 (some .int), Cond.methodLink RX3 199 yX2_gladAtEnd, Cond.instanceMethod yX2_gladAtEnd, Cond.selects RX2 yX2_gladAtEnd yX2_gladAtEnd, Cond.code yX2_gladAtEnd cX2_gladAtEnd 1 (some .int), Cond.methodLink RX2 64 yX2_passDaysTo, Cond.methodLink RX2 68 yX1_gladNow, Cond.instanceMethod yX1_gladNow, Cond.selects RX1 yX1_gladNow yX1_gladNow, Cond.code yX1_gladNow cX1_gladNow 3 (some .int), Cond.fieldLink RX1 68 "PunchedTicket$Line" "liked" "[I", Cond.methodLink RL 80 yX4_glad, Cond.instanceMethod yX4_glad, Cond.selects RX4 yX4_glad yX4_glad, Cond.code yX4_glad cX4_glad 1 (some .int), Cond.methodLink RX4 179 yX4_gladWithout, Cond.instanceMethod yX4_gladWithout, Cond.selects RX4 yX4_gladWithout yX4_gladWithout, Cond.code yX4_gladWithout cX4_gladWithout 2 (some .int), Cond.methodLink RX4 169 yX4_loseTrial, Cond.instanceMethod yX4_loseTrial, Cond.selects RX4 yX4_loseTrial yX4_loseTrial, Cond.code yX4_loseTrial cX4_loseTrial 3 none, Cond.methodLink RX4 173 yX4_passAll]
def wsL_law_r23 : List Cond := [Cond.instanceMethod yX4_passAll, Cond.selects RX4 yX4_passAll yX4_passAll, Cond.code yX4_passAll cX4_passAll 3 (some .int), Cond.methodLink RX4 152 yX4_ones, Cond.static yX4_ones, Cond.code yX4_ones cX4_ones 3 (some .int), Cond.methodLink RX4 176 yX4_gladOf, Cond.instanceMethod yX4_gladOf, Cond.selects RX4 yX4_gladOf yX4_gladOf, Cond.code yX4_gladOf cX4_gladOf 3 (some .int), Cond.methodLink RL 81 yX3_falls, Cond.instanceMethod yX3_falls, Cond.selects RX3 yX3_falls yX3_falls, Cond.code yX3_falls cX3_falls 3 (some .int), Cond.methodLink RX3 202 yX2_journeysToEnd, Cond.instanceMethod yX2_journeysToEnd, Cond.selects RX2 yX2_journeysToEnd yX2_journeysToEnd, Cond.code yX2_journeysToEnd cX2_journeysToEnd 3 (some .int), Cond.methodLink RX2 58 yJ6_bitCount_0f7a4, Cond.static yJ6_bitCount_0f7a4, Cond.initialized RJ6, Cond.code yJ6_bitCount_0f7a4 cJ6_bitCount_0f7a4 1 (some .int), Cond.constant RJ6 265 (1431655765), Cond.constant RJ6 266 (858993459)]
def wsL_law_r24 : List Cond := [Cond.constant RJ6 267 (252645135), Cond.methodLink RL 84 yX4_falls, Cond.instanceMethod yX4_falls, Cond.selects RX4 yX4_falls yX4_falls, Cond.code yX4_falls cX4_falls 3 (some .int), Cond.methodLink RL 85 yX3_bestChange, Cond.instanceMethod yX3_bestChange, Cond.selects RX3 yX3_bestChange yX3_bestChange, Cond.code yX3_bestChange cX3_bestChange 6 (some .int), Cond.methodLink RX3 205 yX3_glad, Cond.methodLink RX3 208 yX3_gladIfChanged, Cond.instanceMethod yX3_gladIfChanged, Cond.selects RX3 yX3_gladIfChanged yX3_gladIfChanged, Cond.code yX3_gladIfChanged cX3_gladIfChanged 3 (some .int), Cond.methodLink RL 88 yX4_bestChange, Cond.instanceMethod yX4_bestChange, Cond.selects RX4 yX4_bestChange yX4_bestChange, Cond.code yX4_bestChange cX4_bestChange 5 (some .int), Cond.methodLink RX4 182 yX4_glad, Cond.methodLink RL 89 yX3_share, Cond.instanceMethod yX3_share, Cond.selects RX3 yX3_share yX3_share, Cond.code yX3_share cX3_share 9 (some .int), Cond.methodLink RX3 211 yX3_fraction]
def wsL_law_r25 : List Cond := [Cond.static yX3_fraction, Cond.code yX3_fraction cX3_fraction 4 (some .int), Cond.methodLink RX3 288 Lib.Math.abs.name, Cond.static Lib.Math.abs.name, Cond.code Lib.Math.abs.name Lib.Math.abs.code 1 (some .int), Cond.methodLink RX3 293 yX3_commonDivisor, Cond.static yX3_commonDivisor, Cond.code yX3_commonDivisor cX3_commonDivisor 6 (some .int), Cond.methodLink RX3 215 yX1_notGone, Cond.instanceMethod yX1_notGone, Cond.selects RX1 yX1_notGone yX1_notGone, Cond.code yX1_notGone cX1_notGone 1 (some .int), Cond.methodLink RX3 218 yJ6_bitCount_0f7a4, Cond.methodLink RX3 223 yX3_factorial, Cond.static yX3_factorial, Cond.code yX3_factorial cX3_factorial 3 (some .int), Cond.methodLink RX3 226 yX3_gladWithOnly, Cond.instanceMethod yX3_gladWithOnly, Cond.selects RX3 yX3_gladWithOnly yX3_gladWithOnly, Cond.code yX3_gladWithOnly cX3_gladWithOnly 2 (some .int), Cond.methodLink RL 93 yX4_share, Cond.instanceMethod yX4_share, Cond.selects RX4 yX4_share yX4_share, Cond.code yX4_share cX4_share 8 (some .int)]
def wsL_law_r26 : List Cond := [Cond.methodLink RX4 185 yX4_goneNow, Cond.instanceMethod yX4_goneNow, Cond.selects RX4 yX4_goneNow yX4_goneNow, Cond.code yX4_goneNow cX4_goneNow 3 (some .int), Cond.methodLink RX4 188 yX4_factorial, Cond.static yX4_factorial, Cond.code yX4_factorial cX4_factorial 3 (some .int), Cond.methodLink RX4 191 yX4_common, Cond.static yX4_common, Cond.code yX4_common cX4_common 5 (some .int), Cond.methodLink RL 94 yX3_blank, Cond.instanceMethod yX3_blank, Cond.selects RX3 yX3_blank yX3_blank, Cond.code yX3_blank cX3_blank 7 (some .int), Cond.methodLink RX3 229 yX3_isStop, Cond.static yX3_isStop, Cond.code yX3_isStop cX3_isStop 1 (some .boolean), Cond.methodLink RX3 232 yX3_seatOfUnusedBlank, Cond.instanceMethod yX3_seatOfUnusedBlank, Cond.selects RX3 yX3_seatOfUnusedBlank yX3_seatOfUnusedBlank, Cond.code yX3_seatOfUnusedBlank cX3_seatOfUnusedBlank 6 (some .int), Cond.methodLink RX3 273 yX2_barredSeats, Cond.methodLink RX3 276 yX3_firstFreeSeat, Cond.static yX3_firstFreeSeat]
def wsL_law_r27 : List Cond := [Cond.code yX3_firstFreeSeat cX3_firstFreeSeat 2 (some .int), Cond.methodLink RX3 235 yX3_firstUsedBlank, Cond.instanceMethod yX3_firstUsedBlank, Cond.selects RX3 yX3_firstUsedBlank yX3_firstUsedBlank, Cond.code yX3_firstUsedBlank cX3_firstUsedBlank 6 (some .int), Cond.methodLink RX3 279 yX3_seatOfUsedBlank, Cond.instanceMethod yX3_seatOfUsedBlank, Cond.selects RX3 yX3_seatOfUsedBlank yX3_seatOfUsedBlank, Cond.code yX3_seatOfUsedBlank cX3_seatOfUsedBlank 8 (some .int), Cond.methodLink RX3 282 yX2_addBlank, Cond.instanceMethod yX2_addBlank, Cond.selects RX2 yX2_addBlank yX2_addBlank, Cond.code yX2_addBlank cX2_addBlank 6 (some .int), Cond.fieldLink RX2 32 "PunchedTicket$Line" "tickets" "I", Cond.fieldLink RX2 44 "PunchedTicket$Moment" "forDay" "[I", Cond.fieldLink RX2 47 "PunchedTicket$Moment" "holder" "[I", Cond.fieldLink RX2 50 "PunchedTicket$Moment" "tickets" "I", Cond.methodLink RX3 239 yX3_firstUnusedBlank, Cond.static yX3_firstUnusedBlank, Cond.code yX3_firstUnusedBlank cX3_firstUnusedBlank 3 (some .int), Cond.methodLink RL 97 yX4_blank, Cond.instanceMethod yX4_blank, Cond.selects RX4 yX4_blank yX4_blank, Cond.code yX4_blank cX4_blank 4 (some .int)]
def wsL_law_r28 : List Cond := [Cond.constantLong RX4 194 (9), Cond.methodLink RX4 196 yX4_isBlank, Cond.instanceMethod yX4_isBlank, Cond.selects RX4 yX4_isBlank yX4_isBlank, Cond.code yX4_isBlank cX4_isBlank 6 (some .boolean), Cond.methodLink RL 98 yX3_see, Cond.instanceMethod yX3_see, Cond.selects RX3 yX3_see yX3_see, Cond.code yX3_see cX3_see 4 (some .int), Cond.methodLink RL 102 yX4_see, Cond.instanceMethod yX4_see, Cond.selects RX4 yX4_see yX4_see, Cond.code yX4_see cX4_see 4 (some .int), Cond.fieldLink RX4 199 "PunchedTicketModel" "seen" "I", Cond.methodLink RL 103 yX3_unsee, Cond.instanceMethod yX3_unsee, Cond.selects RX3 yX3_unsee yX3_unsee, Cond.code yX3_unsee cX3_unsee 2 (some .int), Cond.methodLink RL 106 yX4_unsee, Cond.instanceMethod yX4_unsee, Cond.selects RX4 yX4_unsee yX4_unsee, Cond.code yX4_unsee cX4_unsee 2 (some .int), Cond.methodLink RL 107 yX3_held, Cond.instanceMethod yX3_held]
def wsL_law_r29 : List Cond := [Cond.selects RX3 yX3_held yX3_held, Cond.code yX3_held cX3_held 4 (some .int), Cond.methodLink RX3 242 yX3_trialMakesSeenSo, Cond.instanceMethod yX3_trialMakesSeenSo, Cond.selects RX3 yX3_trialMakesSeenSo yX3_trialMakesSeenSo, Cond.code yX3_trialMakesSeenSo cX3_trialMakesSeenSo 2 (some .boolean), Cond.methodLink RX3 285 yX3_seenIsSoOn, Cond.instanceMethod yX3_seenIsSoOn, Cond.selects RX3 yX3_seenIsSoOn yX3_seenIsSoOn, Cond.code yX3_seenIsSoOn cX3_seenIsSoOn 4 (some .boolean), Cond.methodLink RL 110 yX4_held, Cond.instanceMethod yX4_held, Cond.selects RX4 yX4_held yX4_held, Cond.code yX4_held cX4_held 5 (some .int), Cond.methodLink RX4 202 yX4_isSeen, Cond.instanceMethod yX4_isSeen, Cond.selects RX4 yX4_isSeen yX4_isSeen, Cond.code yX4_isSeen cX4_isSeen 4 (some .boolean), Cond.methodLink RL 111 yX3_losses, Cond.instanceMethod yX3_losses, Cond.selects RX3 yX3_losses yX3_losses, Cond.code yX3_losses cX3_losses 11 (some .int), Cond.methodLink RX3 246 yX3_power, Cond.static yX3_power]
def wsL_law_r30 : List Cond := [Cond.code yX3_power cX3_power 4 (some .int), Cond.methodLink RX3 249 yX3_endsAtAfterLosing, Cond.instanceMethod yX3_endsAtAfterLosing, Cond.selects RX3 yX3_endsAtAfterLosing yX3_endsAtAfterLosing, Cond.code yX3_endsAtAfterLosing cX3_endsAtAfterLosing 4 (some .boolean), Cond.methodLink RL 115 yX4_losses, Cond.instanceMethod yX4_losses, Cond.selects RX4 yX4_losses yX4_losses, Cond.code yX4_losses cX4_losses 11 (some .int), Cond.methodLink RL 118 yX3_seed, Cond.instanceMethod yX3_seed, Cond.selects RX3 yX3_seed yX3_seed, Cond.code yX3_seed cX3_seed 5 (some .long), Cond.methodLink RL 122 yX4_seed, Cond.instanceMethod yX4_seed, Cond.selects RX4 yX4_seed yX4_seed, Cond.code yX4_seed cX4_seed 5 (some .long), Cond.fieldLink RX4 206 "PunchedTicketModel" "seed" "J", Cond.methodLink RL 123 yX3_years, Cond.instanceMethod yX3_years, Cond.selects RX3 yX3_years yX3_years, Cond.code yX3_years cX3_years 5 (some .int), Cond.constantLong RX3 253 (6364136223846793005), Cond.constantLong RX3 255 (1442695040888963407)]
def wsL_law_r31 : List Cond := [Cond.constantLong RX3 257 (64), Cond.methodLink RL 126 yX4_years, Cond.instanceMethod yX4_years, Cond.selects RX4 yX4_years yX4_years, Cond.code yX4_years cX4_years 4 (some .int), Cond.constantLong RX4 210 (30), Cond.constantLong RX4 212 (6364136223846793005), Cond.constantLong RX4 214 (1442695040888963407), Cond.constantLong RX4 216 (64), Cond.methodLink RL 127 yX3_keep, Cond.instanceMethod yX3_keep, Cond.selects RX3 yX3_keep yX3_keep, Cond.code yX3_keep cX3_keep 2 (some .int), Cond.methodLink RX3 259 yX3_isSlot, Cond.static yX3_isSlot, Cond.code yX3_isSlot cX3_isSlot 1 (some .boolean), Cond.methodLink RL 130 yX4_keep, Cond.instanceMethod yX4_keep, Cond.selects RX4 yX4_keep yX4_keep, Cond.code yX4_keep cX4_keep 3 (some .int), Cond.methodLink RL 131 yX3_again, Cond.instanceMethod yX3_again, Cond.selects RX3 yX3_again yX3_again, Cond.code yX3_again cX3_again 3 (some .int)]
def wsL_law_r32 : List Cond := [Cond.methodLink RL 134 yX4_again, Cond.instanceMethod yX4_again, Cond.selects RX4 yX4_again yX4_again, Cond.code yX4_again cX4_again 3 (some .int), Cond.methodLink RL 135 yX3_count, Cond.instanceMethod yX3_count, Cond.selects RX3 yX3_count yX3_count, Cond.code yX3_count cX3_count 2 (some .int), Cond.methodLink RX3 266 yX1_gladNow, Cond.methodLink RL 138 yX4_count, Cond.instanceMethod yX4_count, Cond.selects RX4 yX4_count yX4_count, Cond.code yX4_count cX4_count 4 (some .int)]
def wsL_law : List Cond := (wsL_law_r1 ++ (wsL_law_r2 ++ (wsL_law_r3 ++ (wsL_law_r4 ++ (wsL_law_r5 ++ (wsL_law_r6 ++ (wsL_law_r7 ++ (wsL_law_r8 ++ (wsL_law_r9 ++ (wsL_law_r10 ++ (wsL_law_r11 ++ (wsL_law_r12 ++ (wsL_law_r13 ++ (wsL_law_r14 ++ (wsL_law_r15 ++ (wsL_law_r16 ++ (wsL_law_r17 ++ (wsL_law_r18 ++ (wsL_law_r19 ++ (wsL_law_r20 ++ (wsL_law_r21 ++ (wsL_law_r22 ++ (wsL_law_r23 ++ (wsL_law_r24 ++ (wsL_law_r25 ++ (wsL_law_r26 ++ (wsL_law_r27 ++ (wsL_law_r28 ++ (wsL_law_r29 ++ (wsL_law_r30 ++ (wsL_law_r31 ++ wsL_law_r32))))))))))))))))))))))))))))))) ++ wsX30 ++ wsX40 ++ wsX00 ++ wsX10 ++ wsX20 ++ ([] : List Cond)
abbrev vwCl : List vw_C := [(RX0, TX0, 10), (RX1, TX1, 8), (RX2, TX2, 3), (RX3, TX3, 17), (RX4, TX4, 30)]
end
section
/-! the classes' array types, a contract's start, a world; what a contract is; calls; returns; numbers -/
abbrev ty3 (cI cZ cM : ClassId) : List (ClassId × FieldType) := [(cI, .int), (cZ, .boolean), (cM, .object RX1)]
def Pre (D : va_G) (cI cZ cM : ClassId) (WS : va_W) (sz : Nat) (U : State) : Prop := U.heap.size = sz ∧ va_P D vwCl WS U.heap ∧ va_K D vwCl (ty3 cI cZ cM) U ∧ va_D (fun _ => True) WS
def Wd (D : va_G) (cI cZ cM : ClassId) (A : Nat → Prop) (WS : va_W) (t : State) : Prop := va_P D vwCl WS t.heap ∧ va_K D vwCl (ty3 cI cZ cM) t ∧ va_D A WS
theorem pre_blind {D : va_G} {cI cZ cM : ClassId} {WS : va_W} {sz : Nat} {av : List Value} : FrameBlind (va_Pc av (Pre D cI cZ cM WS sz)) := fun a U g mk q => by
  obtain ⟨q0, q1, qP, qK, qD⟩ := q
  exact ⟨q0, q1, qP, va_K.moved (u := U) (U := U.calling g mk a) (Vm.Alike.refl U.vm) qK, qD⟩
/-- contracts: an int, a long, nothing -/
abbrev Ci {S : Type} (l : Launch) (y : MethodName) (ws : List Cond) (rm : Room) (D : va_G) (cI cZ cM : ClassId) (av : List Value) (WS : va_W) (sz : Nat) (post : Int32 → S → Prop) (W1 : S → va_W) (mc ms : Nat) : Prop :=
  Met l y ws rm (va_Pc av (Pre D cI cZ cM WS sz)) (va_Qi post (fun u => Wd D cI cZ cM (va_A WS sz) (W1 u)) (va_A WS sz)) mc ms (va_A WS sz)
abbrev Cl {S : Type} (l : Launch) (y : MethodName) (ws : List Cond) (rm : Room) (D : va_G) (cI cZ cM : ClassId) (av : List Value) (WS : va_W) (sz : Nat) (post : Int64 → S → Prop) (W1 : S → va_W) (mc ms : Nat) : Prop :=
  Met l y ws rm (va_Pc av (Pre D cI cZ cM WS sz)) (va_Ql post (fun u => Wd D cI cZ cM (va_A WS sz) (W1 u)) (va_A WS sz)) mc ms (va_A WS sz)
abbrev Cv {S : Type} (l : Launch) (y : MethodName) (ws : List Cond) (rm : Room) (D : va_G) (cI cZ cM : ClassId) (av : List Value) (WS : va_W) (sz : Nat) (post : S → Prop) (W1 : S → va_W) (mc ms : Nat) : Prop :=
  Met l y ws rm (va_Pc av (Pre D cI cZ cM WS sz)) (va_Qv post (fun u => Wd D cI cZ cM (va_A WS sz) (W1 u)) (va_A WS sz)) mc ms (va_A WS sz)
/-- what a method's body begins with -/
def Bd (p : Program) (s : State) (m : MethodId) (args : Array Value) (meth : Method) (c : Code) (y : MethodName) (ws : List Cond) (cc : ByteArray) (maxL : Nat) (ret : Option FieldType) : Prop :=
  p.tables.exec = Jvm.exec ∧ c.code = cc ∧ meth.sig.returnType = ret ∧ (∀ w ∈ ws, w.before args s = true) ∧ s.vm.findClass y.cls = some m.cls ∧ meth.locks = false ∧ meth.name = y.name ∧ c.maxLocals = maxL
theorem begins {l : Launch} {y : MethodName} {ws ws' : List Cond} {rm : Room} {D : va_G} {cI cZ cM : ClassId} {av : List Value} {WS : va_W} {sz mc ms : Nat} {Qc : (Nat → Prop) → Array Value → State → Outcome → State → Prop} (cc : ByteArray) (maxL : Nat) (ret : Option FieldType)
    (hy : plainName y.cls = true) (hw : ws = Cond.code y cc maxL ret :: ws') (hlen : (lg_sl av).length ≤ maxL)
    (body : ∀ (p : Program) (e : Env) (s : State) (m : MethodId) (args : Array Value) (below : List Frame) (meth : Method) (c : Code) (R : Room) (Q : State → Prop) (A : Nat → Prop) (ls : Array Slot), Bd p s m args meth c y ws cc maxL ret → R = rm → Q = MQ below (Qc A) args s mc ms A →
      (∀ q : Nat, s.heap.size ≤ q → A q) → va_S A s.heap s.heap [] → va_K D vwCl (ty3 cI cZ cM) s → va_P D vwCl WS s.heap → va_D A WS → lv_has ls maxL (lv_args 0 av) →
      W p l e R s m args below meth c s.heap [] 0 0 Q (F0 m 0 ls [])) : Met l y ws rm (va_Pc av (Pre D cI cZ cM WS sz)) (Qc (va_A WS sz)) mc ms (va_A WS sz) := by
  refine Met.ofW (cc := cc) (maxL := maxL) (ret := ret) hy hw ?_
  intro p e s m args below meth c s₁ B hml hv
  obtain ⟨rfl, hsz, hP, hK, hD0⟩ := hv
  subst hsz
  rw [lg_entry_eq]
  exact body p e s m _ below meth c _ _ _ _ ⟨B.exec, B.bytes, B.returns, atoms_spec (ws := ws) B.pre, findClass_of_methodNamed B.named, B.notSynchronized, (name_of_methodNamed B.named B.method).1, hml⟩ rfl rfl (fun q h => Or.inr h) va_S.rf hK hP (hD0.self (sz := s.heap.size)) (lv_entry av hlen)
section RT
variable {p : Program} {l : Launch} {e : Env} {R : Room} {s : State} {m : MethodId} {args : Array Value} {below : List Frame} {meth : Method} {c : Code} {H : Heap} {locs : List Loc} {cells slots mc ms : Nat} {Q : State → Prop} {cc : ByteArray} {pc : Nat} {ls : Array Slot} {D : va_G} {cI cZ cM : ClassId} {A : Nat → Prop} {S : Type} {W1 : S → va_W}
theorem ret_i {post : Int32 → S → Prop} (u : S) {v : Int32} {ty : FieldType} (hx : p.tables.exec = Jvm.exec) (hb : c.code = cc) (hr : meth.sig.returnType = some ty) (hlocks : meth.locks = false) (hn : narrow ty (.int v) = .int v) (hQ : Q = MQ below (va_Qi post (fun u => Wd D cI cZ cM A (W1 u)) A) args s mc ms A) (hK : va_K D vwCl (ty3 cI cZ cM) s) (hP : va_P D vwCl (W1 u) H) (hD : va_D A (W1 u)) (hS : va_S A s.heap H locs) (hm : cells ≤ mc ∧ slots ≤ ms) (hdg : decode cc pc = .ok (.ireturn, 1)) (hp : post v u) : W p l e R s m args below meth c H locs cells slots Q (F0 m pc ls [.int v]) := by
  subst hQ
  refine W.widen hm.1 hm.2 ?_
  exact W.zret hx hb hr hn (fun t ht hW => ⟨⟨v, u, rfl, hp, by rw [ht]; exact hP, va_K.moved hW.alike hK, hD⟩, hS.F ht⟩) hS.2.2 hdg hlocks
theorem ret_l {post : Int64 → S → Prop} (u : S) {v : Int64} (hx : p.tables.exec = Jvm.exec) (hb : c.code = cc) (hr : meth.sig.returnType = some .long) (hlocks : meth.locks = false) (hQ : Q = MQ below (va_Ql post (fun u => Wd D cI cZ cM A (W1 u)) A) args s mc ms A) (hK : va_K D vwCl (ty3 cI cZ cM) s) (hP : va_P D vwCl (W1 u) H) (hD : va_D A (W1 u)) (hS : va_S A s.heap H locs) (hm : cells ≤ mc ∧ slots ≤ ms) (hdg : decode cc pc = .ok (.lreturn, 1)) (hp : post v u) : W p l e R s m args below meth c H locs cells slots Q (F0 m pc ls [.long v]) := by
  subst hQ
  refine W.widen hm.1 hm.2 ?_
  exact W.lret hx hb hr (fun t ht hW => ⟨⟨v, u, rfl, hp, by rw [ht]; exact hP, va_K.moved hW.alike hK, hD⟩, hS.F ht⟩) hS.2.2 hdg hlocks
theorem ret_v {post : S → Prop} (u : S) (hx : p.tables.exec = Jvm.exec) (hb : c.code = cc) (hr : meth.sig.returnType = none) (hlocks : meth.locks = false) (hQ : Q = MQ below (va_Qv post (fun u => Wd D cI cZ cM A (W1 u)) A) args s mc ms A) (hK : va_K D vwCl (ty3 cI cZ cM) s) (hP : va_P D vwCl (W1 u) H) (hD : va_D A (W1 u)) (hS : va_S A s.heap H locs) (hm : cells ≤ mc ∧ slots ≤ ms) (hdg : decode cc pc = .ok (.return_, 1)) (hp : post u) : W p l e R s m args below meth c H locs cells slots Q (F0 m pc ls []) := by
  subst hQ
  refine W.widen hm.1 hm.2 ?_
  exact W.vret hx hb hr (fun t ht hW => ⟨⟨u, rfl, hp, by rw [ht]; exact hP, va_K.moved hW.alike hK, hD⟩, hS.F ht⟩) hS.2.2 hdg hlocks
end RT
section CL
variable {p : Program} {l : Launch} {e : Env} {R : Room} {s : State} {m : MethodId} {args : Array Value} {below : List Frame} {meth : Method} {c : Code} {H : Heap} {locs : List Loc} {cells slots mc ms : Nat} {Q : State → Prop} {cc : ByteArray} {pc : Nat} {ls : Array Slot} {D : va_G} {cI cZ cM : ClassId} {A : Nat → Prop} {S : Type} {W1 : S → va_W}
variable {y : MethodName} {bytes : ByteArray} {maxL nL n index ci : Nat} {ret : Option FieldType} {ws Ts : List Cond} {rm : Room} {own C host : String} {b : Addr} {rest st : List Value} {WC ws0 : va_W} {T : u_T} {N : Nat} {fs : List Value}
abbrev pickW (ws : va_W) (is : List Nat) : va_W := is.filterMap (fun i => ws[i]?)
theorem pick_map {ws : va_W} : ∀ {is : List Nat}, (∀ i ∈ is, i < ws.length) → is.map (fun i => ws[i]?) = (pickW ws is).map some := by
  intro is
  induction is with
  | nil => intro _; rfl
  | cons a is ih =>
    intro h
    have ha : a < ws.length := h a List.mem_cons_self
    have hs : ws[a]? = some ws[a] := List.getElem?_eq_getElem ha
    rw [List.map_cons, ih (fun i hi => h i (List.mem_cons_of_mem _ hi))]
    show _ = ((a :: is).filterMap (fun i => ws[i]?)).map some
    rw [List.filterMap_cons, hs]
    rfl
theorem joinC (hP : va_P D vwCl ws0 H) (hD : va_D A ws0) (hS : va_S A s.heap H locs) (hA : ∀ q : Nat, s.heap.size ≤ q → A q) (isC isR : List Nat) (hC : isC.map (fun i => ws0[i]?) = WC.map some) (hR : isR.all (fun i => Nat.blt i ws0.length) = true) (hn2 : va_nd isR = true) (hdis : ∀ i ∈ isR, i ∉ isC) {H1 : Heap} {w1 : va_W}
    (hk : ∀ q : Nat, q < H.size → ¬ va_A WC H.size q → H1[q]? = H[q]?) (hP1 : va_P D vwCl w1 H1) (hD1 : va_D (va_A WC H.size) w1) : va_P D vwCl (pickW ws0 isR ++ w1) H1 ∧ va_D A (pickW ws0 isR ++ w1) :=
  va_join hP hD isC isR hC (pick_map (fun i hi => Nat.le_of_ble_eq_true (List.all_eq_true.mp hR i hi))) hn2 hdis hk (va_free hD hS hA isC hC) hP1 hD1
theorem preC (hK : va_K D vwCl (ty3 cI cZ cM) s) (hP : va_P D vwCl ws0 H) (hD : va_D A ws0) (isC : List Nat) (hC : isC.map (fun i => ws0[i]?) = WC.map some) (hn1 : va_nd isC = true) {av : List Value} : ∀ U : State, U.heap = H → s.WarmedH U.vm → va_Pc av (Pre D cI cZ cM WC H.size) av.toArray U := by
  intro U hU hW
  have e : isC.filterMap (fun i => ws0[i]?) = WC := by
    have h := congrArg (fun z : List (Option (Nat × va_E)) => z.filterMap id) hC
    simpa [List.filterMap_map] using h
  exact ⟨rfl, by rw [hU], by rw [hU]; exact hP.sub isC e, va_K.moved hW.alike hK, (hD.sub isC hn1 hC).weaken (fun _ _ _ _ => trivial)⟩
theorem cV_i {post : Int32 → S → Prop} {As : List Value} (F : CallFix p m c cc nL s args Ts own) (hM : Ci l y ws rm D cI cZ cM (.ref b :: As) WC H.size post W1 mc ms) (cw : CallW R s args own C index y bytes maxL ret ws rm mc ms n)
    (hK : va_K D vwCl (ty3 cI cZ cM) s) (hP : va_P D vwCl ws0 H) (hD : va_D A ws0) (hS : va_S A s.heap H locs) (hA : ∀ q : Nat, s.heap.size ≤ q → A q) (isC isR : List Nat) (hC : isC.map (fun i => ws0[i]?) = WC.map some) (hRl : isR.all (fun i => Nat.blt i ws0.length) = true) (hn1 : va_nd isC = true) (hn2 : va_nd isR = true) (hdis : ∀ i ∈ isR, i ∉ isC)
    (hci : vwCl[ci]? = some (C, T, N)) (q0 : Nat) (hrec : ws0[q0]? = some (b, .inr (ci, fs))) (hl : ls.size = nL) (hn : As.length = n) (hst : st = As.reverse ++ .ref b :: rest) (hW : (rest.map fun v => v.category).sum ≤ 8) (hdg : decode cc pc = .ok (.invokevirtual index, 3)) (hf : cells + mc ≤ R.cells ∧ slots + ms ≤ R.slots)
    (kk : ∀ (r : Int32) (u : S) (H1 : Heap) (locs1 : List Loc), post r u → va_P D vwCl (pickW ws0 isR ++ W1 u) H1 → va_D A (pickW ws0 isR ++ W1 u) → va_S A s.heap H1 locs1 → W p l e R s m args below meth c H1 locs1 (cells + mc) (slots + ms) Q (F0 m (pc + 3) ls (.int r :: rest))) : W p l e R s m args below meth c H locs cells slots Q (F0 m pc ls st) := by
  subst hst
  have hF := va_free hD hS hA isC hC
  refine va_calli (va_runV (As := As) (rest := rest) F hM cw ⟨pre_blind, va_recv hK hP hci hrec, preC hK hP hD isC hC hn1⟩ rfl hn hl rfl (lv_room hW) hdg hf) hS (fun q _ h => hF q h) hF (fun r u t H1 locs1 ht hvm hw hB hz1 hk1 hS1 => ?_)
  obtain ⟨hP1, hK1, hD1⟩ := hB
  rw [ht] at hP1
  obtain ⟨hP2, hD2⟩ := joinC hP hD hS hA isC isR hC hRl hn2 hdis hk1 hP1 hD1
  exact kk r u H1 locs1 hw hP2 hD2 hS1
theorem cV_l {post : Int64 → S → Prop} {As : List Value} (F : CallFix p m c cc nL s args Ts own) (hM : Cl l y ws rm D cI cZ cM (.ref b :: As) WC H.size post W1 mc ms) (cw : CallW R s args own C index y bytes maxL ret ws rm mc ms n)
    (hK : va_K D vwCl (ty3 cI cZ cM) s) (hP : va_P D vwCl ws0 H) (hD : va_D A ws0) (hS : va_S A s.heap H locs) (hA : ∀ q : Nat, s.heap.size ≤ q → A q) (isC isR : List Nat) (hC : isC.map (fun i => ws0[i]?) = WC.map some) (hRl : isR.all (fun i => Nat.blt i ws0.length) = true) (hn1 : va_nd isC = true) (hn2 : va_nd isR = true) (hdis : ∀ i ∈ isR, i ∉ isC)
    (hci : vwCl[ci]? = some (C, T, N)) (q0 : Nat) (hrec : ws0[q0]? = some (b, .inr (ci, fs))) (hl : ls.size = nL) (hn : As.length = n) (hst : st = As.reverse ++ .ref b :: rest) (hW : (rest.map fun v => v.category).sum ≤ 8) (hdg : decode cc pc = .ok (.invokevirtual index, 3)) (hf : cells + mc ≤ R.cells ∧ slots + ms ≤ R.slots)
    (kk : ∀ (r : Int64) (u : S) (H1 : Heap) (locs1 : List Loc), post r u → va_P D vwCl (pickW ws0 isR ++ W1 u) H1 → va_D A (pickW ws0 isR ++ W1 u) → va_S A s.heap H1 locs1 → W p l e R s m args below meth c H1 locs1 (cells + mc) (slots + ms) Q (F0 m (pc + 3) ls (.long r :: rest))) : W p l e R s m args below meth c H locs cells slots Q (F0 m pc ls st) := by
  subst hst
  have hF := va_free hD hS hA isC hC
  refine va_calll (va_runV (As := As) (rest := rest) F hM cw ⟨pre_blind, va_recv hK hP hci hrec, preC hK hP hD isC hC hn1⟩ rfl hn hl rfl (lv_room hW) hdg hf) hS (fun q _ h => hF q h) hF (fun r u t H1 locs1 ht hvm hw hB hz1 hk1 hS1 => ?_)
  obtain ⟨hP1, hK1, hD1⟩ := hB
  rw [ht] at hP1
  obtain ⟨hP2, hD2⟩ := joinC hP hD hS hA isC isR hC hRl hn2 hdis hk1 hP1 hD1
  exact kk r u H1 locs1 hw hP2 hD2 hS1
theorem cV_v {post : S → Prop} {As : List Value} (F : CallFix p m c cc nL s args Ts own) (hM : Cv l y ws rm D cI cZ cM (.ref b :: As) WC H.size post W1 mc ms) (cw : CallW R s args own C index y bytes maxL ret ws rm mc ms n)
    (hK : va_K D vwCl (ty3 cI cZ cM) s) (hP : va_P D vwCl ws0 H) (hD : va_D A ws0) (hS : va_S A s.heap H locs) (hA : ∀ q : Nat, s.heap.size ≤ q → A q) (isC isR : List Nat) (hC : isC.map (fun i => ws0[i]?) = WC.map some) (hRl : isR.all (fun i => Nat.blt i ws0.length) = true) (hn1 : va_nd isC = true) (hn2 : va_nd isR = true) (hdis : ∀ i ∈ isR, i ∉ isC)
    (hci : vwCl[ci]? = some (C, T, N)) (q0 : Nat) (hrec : ws0[q0]? = some (b, .inr (ci, fs))) (hl : ls.size = nL) (hn : As.length = n) (hst : st = As.reverse ++ .ref b :: rest) (hW : (rest.map fun v => v.category).sum ≤ 8) (hdg : decode cc pc = .ok (.invokevirtual index, 3)) (hf : cells + mc ≤ R.cells ∧ slots + ms ≤ R.slots)
    (kk : ∀ (u : S) (H1 : Heap) (locs1 : List Loc), post u → va_P D vwCl (pickW ws0 isR ++ W1 u) H1 → va_D A (pickW ws0 isR ++ W1 u) → va_S A s.heap H1 locs1 → W p l e R s m args below meth c H1 locs1 (cells + mc) (slots + ms) Q (F0 m (pc + 3) ls rest)) : W p l e R s m args below meth c H locs cells slots Q (F0 m pc ls st) := by
  subst hst
  have hF := va_free hD hS hA isC hC
  refine va_callv (va_runV (As := As) (rest := rest) F hM cw ⟨pre_blind, va_recv hK hP hci hrec, preC hK hP hD isC hC hn1⟩ rfl hn hl rfl (lv_room hW) hdg hf) hS (fun q _ h => hF q h) hF (fun u t H1 locs1 ht hvm hw hB hz1 hk1 hS1 => ?_)
  obtain ⟨hP1, hK1, hD1⟩ := hB
  rw [ht] at hP1
  obtain ⟨hP2, hD2⟩ := joinC hP hD hS hA isC isR hC hRl hn2 hdis hk1 hP1 hD1
  exact kk u H1 locs1 hw hP2 hD2 hS1
theorem cS_i {post : Int32 → S → Prop} {As : List Value} (F : CallFix p m c cc nL s args Ts own) (hM : Ci l y ws rm D cI cZ cM As WC H.size post W1 mc ms) (cw : CallB R s args own index y bytes maxL ret ws rm mc ms n ∧ (Cond.static y).before args s = true)
    (hK : va_K D vwCl (ty3 cI cZ cM) s) (hP : va_P D vwCl ws0 H) (hD : va_D A ws0) (hS : va_S A s.heap H locs) (hA : ∀ q : Nat, s.heap.size ≤ q → A q) (isC isR : List Nat) (hC : isC.map (fun i => ws0[i]?) = WC.map some) (hRl : isR.all (fun i => Nat.blt i ws0.length) = true) (hn1 : va_nd isC = true) (hn2 : va_nd isR = true) (hdis : ∀ i ∈ isR, i ∉ isC)
    (hl : ls.size = nL) (hn : As.length = n) (hst : st = As.reverse ++ rest) (hW : (rest.map fun v => v.category).sum ≤ 8) (hdg : decode cc pc = .ok (.invokestatic index, 3)) (hf : cells + mc ≤ R.cells ∧ slots + ms ≤ R.slots)
    (kk : ∀ (r : Int32) (u : S) (H1 : Heap) (locs1 : List Loc), post r u → va_P D vwCl (pickW ws0 isR ++ W1 u) H1 → va_D A (pickW ws0 isR ++ W1 u) → va_S A s.heap H1 locs1 → W p l e R s m args below meth c H1 locs1 (cells + mc) (slots + ms) Q (F0 m (pc + 3) ls (.int r :: rest))) : W p l e R s m args below meth c H locs cells slots Q (F0 m pc ls st) := by
  subst hst
  have hF := va_free hD hS hA isC hC
  refine va_calli (va_runS (As := As) (rest := rest) F hM cw ⟨pre_blind, preC hK hP hD isC hC hn1⟩ rfl hn hl rfl (lv_room hW) hdg hf) hS (fun q _ h => hF q h) hF (fun r u t H1 locs1 ht hvm hw hB hz1 hk1 hS1 => ?_)
  obtain ⟨hP1, hK1, hD1⟩ := hB
  rw [ht] at hP1
  obtain ⟨hP2, hD2⟩ := joinC hP hD hS hA isC isR hC hRl hn2 hdis hk1 hP1 hD1
  exact kk r u H1 locs1 hw hP2 hD2 hS1
theorem cI_v {post : S → Prop} {As : List Value} (F : CallFix p m c cc nL s args Ts own) (hM : Cv l y ws rm D cI cZ cM (.ref b :: As) WC H.size post W1 mc ms) (cw : CallB R s args own index y bytes maxL none ws rm mc ms n ∧ y.name = "<init>" ∧ (Cond.instanceMethod y).before args s = true)
    (hK : va_K D vwCl (ty3 cI cZ cM) s) (hP : va_P D vwCl ws0 H) (hD : va_D A ws0) (hS : va_S A s.heap H locs) (hA : ∀ q : Nat, s.heap.size ≤ q → A q) (isC isR : List Nat) (hC : isC.map (fun i => ws0[i]?) = WC.map some) (hRl : isR.all (fun i => Nat.blt i ws0.length) = true) (hn1 : va_nd isC = true) (hn2 : va_nd isR = true) (hdis : ∀ i ∈ isR, i ∉ isC)
    (hl : ls.size = nL) (hn : As.length = n) (hst : st = As.reverse ++ .ref b :: rest) (hW : (rest.map fun v => v.category).sum ≤ 8) (hdg : decode cc pc = .ok (.invokespecial index, 3)) (hf : cells + mc ≤ R.cells ∧ slots + ms ≤ R.slots)
    (kk : ∀ (u : S) (H1 : Heap) (locs1 : List Loc), post u → va_P D vwCl (pickW ws0 isR ++ W1 u) H1 → va_D A (pickW ws0 isR ++ W1 u) → va_S A s.heap H1 locs1 → W p l e R s m args below meth c H1 locs1 (cells + mc) (slots + ms) Q (F0 m (pc + 3) ls rest)) : W p l e R s m args below meth c H locs cells slots Q (F0 m pc ls st) := by
  subst hst
  have hF := va_free hD hS hA isC hC
  refine va_callv (va_runI (As := As) (rest := rest) F hM cw ⟨pre_blind, preC hK hP hD isC hC hn1⟩ rfl hn hl rfl (lv_room hW) hdg hf) hS (fun q _ h => hF q h) hF (fun u t H1 locs1 ht hvm hw hB hz1 hk1 hS1 => ?_)
  obtain ⟨hP1, hK1, hD1⟩ := hB
  rw [ht] at hP1
  obtain ⟨hP2, hD2⟩ := joinC hP hD hS hA isC isR hC hRl hn2 hdis hk1 hP1 hD1
  exact kk u H1 locs1 hw hP2 hD2 hS1
theorem cN_v {post : S → Prop} {As : List Value} (F : CallFix p m c cc nL s args Ts own) (hM : Cv l y ws rm D cI cZ cM (.ref b :: As) WC H.size post W1 mc ms) (cw : va_CN R s args own index y host bytes maxL none ws rm mc ms n ∧ y.name = "<init>" ∧ (Cond.instanceMethod y).before args s = true)
    (hK : va_K D vwCl (ty3 cI cZ cM) s) (hP : va_P D vwCl ws0 H) (hD : va_D A ws0) (hS : va_S A s.heap H locs) (hA : ∀ q : Nat, s.heap.size ≤ q → A q) (isC isR : List Nat) (hC : isC.map (fun i => ws0[i]?) = WC.map some) (hRl : isR.all (fun i => Nat.blt i ws0.length) = true) (hn1 : va_nd isC = true) (hn2 : va_nd isR = true) (hdis : ∀ i ∈ isR, i ∉ isC)
    (hl : ls.size = nL) (hn : As.length = n) (hst : st = As.reverse ++ .ref b :: rest) (hW : (rest.map fun v => v.category).sum ≤ 8) (hdg : decode cc pc = .ok (.invokespecial index, 3)) (hf : cells + mc ≤ R.cells ∧ slots + ms ≤ R.slots)
    (kk : ∀ (u : S) (H1 : Heap) (locs1 : List Loc), post u → va_P D vwCl (pickW ws0 isR ++ W1 u) H1 → va_D A (pickW ws0 isR ++ W1 u) → va_S A s.heap H1 locs1 → W p l e R s m args below meth c H1 locs1 (cells + mc) (slots + ms) Q (F0 m (pc + 3) ls rest)) : W p l e R s m args below meth c H locs cells slots Q (F0 m pc ls st) := by
  subst hst
  have hF := va_free hD hS hA isC hC
  refine va_callv (va_runIN (As := As) (rest := rest) F hM cw ⟨pre_blind, preC hK hP hD isC hC hn1⟩ rfl hn hl rfl (lv_room hW) hdg hf) hS (fun q _ h => hF q h) hF (fun u t H1 locs1 ht hvm hw hB hz1 hk1 hS1 => ?_)
  obtain ⟨hP1, hK1, hD1⟩ := hB
  rw [ht] at hP1
  obtain ⟨hP2, hD2⟩ := joinC hP hD hS hA isC isR hC hRl hn2 hdis hk1 hP1 hD1
  exact kk u H1 locs1 hw hP2 hD2 hS1
end CL
/-! numbers: what a compare says, in whole numbers -/
theorem b_lt {x y : Int32} {a b : Int} (hx : x.toInt = a) (hy : y.toInt = b) (h : x < y) : a < b := by rw [← hx, ← hy]; exact Int32.lt_iff_toInt_lt.mp h
theorem b_le {x y : Int32} {a b : Int} (hx : x.toInt = a) (hy : y.toInt = b) (h : x ≤ y) : a ≤ b := by rw [← hx, ← hy]; exact Int32.le_iff_toInt_le.mp h
theorem b_nlt {x y : Int32} {a b : Int} (hx : x.toInt = a) (hy : y.toInt = b) (h : ¬ x < y) : b ≤ a := by
  rw [← hx, ← hy]; exact Int.not_lt.mp (fun q => h (Int32.lt_iff_toInt_lt.mpr q))
theorem b_nle {x y : Int32} {a b : Int} (hx : x.toInt = a) (hy : y.toInt = b) (h : ¬ x ≤ y) : b < a := by
  rw [← hx, ← hy]; exact Int.not_le.mp (fun q => h (Int32.le_iff_toInt_le.mpr q))
theorem b_eq {x y : Int32} {a b : Int} (hx : x.toInt = a) (hy : y.toInt = b) (h : x = y) : a = b := by rw [← hx, ← hy, h]
theorem b_ne {x y : Int32} {a b : Int} (hx : x.toInt = a) (hy : y.toInt = b) (h : ¬ x = y) : a ≠ b := by
  rw [← hx, ← hy]; exact fun q => h (Int32.toInt_inj.mp q)
theorem ti_add {x y : Int32} (h1 : -2147483648 ≤ x.toInt + y.toInt) (h2 : x.toInt + y.toInt < 2147483648) : (x + y).toInt = x.toInt + y.toInt := by
  rw [Int32.toInt_add]; exact Int.bmod_eq_of_le (by simpa using h1) (by simpa using h2)
theorem ti_sub {x y : Int32} (h1 : -2147483648 ≤ x.toInt - y.toInt) (h2 : x.toInt - y.toInt < 2147483648) : (x - y).toInt = x.toInt - y.toInt := by
  rw [Int32.toInt_sub]; exact Int.bmod_eq_of_le (by simpa using h1) (by simpa using h2)
theorem ti_mul {x y : Int32} (h1 : -2147483648 ≤ x.toInt * y.toInt) (h2 : x.toInt * y.toInt < 2147483648) : (x * y).toInt = x.toInt * y.toInt := by
  rw [Int32.toInt_mul]; exact Int.bmod_eq_of_le (by simpa using h1) (by simpa using h2)
theorem arr_same {U : State} {cA cB : ClassId} {ty : FieldType} (h1 : va_RA U cA ty) (h2 : va_RA U cB ty) : cA = cB := by
  cases ty with
  | object C =>
    obtain ⟨kA, comp, -, -, -, h4⟩ := h1
    obtain ⟨kB, comp2, -, -, -, g4⟩ := h2
    exact Option.some.inj (h4.symm.trans g4)
  | _ => exact Option.some.inj (h1.symm.trans h2)
section MR
variable {p : Program} {l : Launch} {e : Env} {R : Room} {s : State} {m : MethodId} {args : Array Value} {below : List Frame} {meth : Method} {c : Code} {H : Heap} {locs : List Loc} {cells slots : Nat} {Q : State → Prop} {pc : Nat} {ls : Array Slot} {rest : List Value}
theorem lv_topc {x y : Int32} (h : x = y) (k : W p l e R s m args below meth c H locs cells slots Q (F0 m pc ls (.int y :: rest))) : W p l e R s m args below meth c H locs cells slots Q (F0 m pc ls (.int x :: rest)) := h ▸ k
end MR
theorem nar_z {v : Int32} (h : v.toInt = 0 ∨ v.toInt = 1) : narrow .boolean (.int v) = .int v := by
  rcases h with h | h
  · have e : v = 0 := Int32.toInt_inj.mp (h.trans (show (0 : Int) = (0 : Int32).toInt by decide))
    subst e; rfl
  · have e : v = 1 := Int32.toInt_inj.mp (h.trans (show (1 : Int) = (1 : Int32).toInt by decide))
    subst e; rfl
theorem lcmp_t (x y : Int64) {z : Int32} (e : z = lg_cmp x y) : (z.toInt = -1 ∧ x.toInt < y.toInt) ∨ (z.toInt = 0 ∧ x.toInt = y.toInt) ∨ (z.toInt = 1 ∧ y.toInt < x.toInt) := by
  subst e
  unfold lg_cmp
  by_cases h1 : x > y
  · rw [if_pos h1]
    exact Or.inr (Or.inr ⟨by decide, Int64.lt_iff_toInt_lt.mp h1⟩)
  · have g1 : ¬ y.toInt < x.toInt := fun q => h1 (Int64.lt_iff_toInt_lt.mpr q)
    by_cases h2 : x = y
    · rw [if_neg h1, if_pos h2]
      exact Or.inr (Or.inl ⟨by decide, by rw [h2]⟩)
    · have g2 : ¬ x.toInt = y.toInt := fun q => h2 (Int64.toInt_inj.mp q)
      rw [if_neg h1, if_neg h2]
      exact Or.inl ⟨by decide, by omega⟩
theorem cl_of {i : Int32} : i.toNatClampNeg = i.toInt.toNat := rfl
theorem upd_ne {f : Nat → Int32} {i x : Int32} {j : Nat} (h0 : 0 ≤ i.toInt) (h : i.toInt ≠ (j : Int)) : upd f i.toNatClampNeg x j = f j := pk_un (by rw [cl_of]; omega)
theorem upd_eq {f : Nat → Int32} {i x : Int32} {j : Nat} (h : i.toInt = (j : Int)) : upd f i.toNatClampNeg x j = x := by
  have e : i.toNatClampNeg = j := by rw [cl_of]; omega
  rw [e]; exact pk_us
theorem ld_at (f : Nat → Int32) {i : Int32} (j : Nat) (h : i.toInt = (j : Int)) : f i.toNatClampNeg = f j := by
  have e : i.toNatClampNeg = j := by rw [cl_of]; omega
  rw [e]
section NW
variable {p : Program} {l : Launch} {e : Env} {R : Room} {s : State} {m : MethodId} {args : Array Value} {below : List Frame} {meth : Method} {c : Code} {H : Heap} {locs : List Loc} {cells slots : Nat} {Q : State → Prop} {cc : ByteArray} {pc : Nat} {ls : Array Slot} {rest : List Value} {D : va_G} {cI cZ cM : ClassId} {A : Nat → Prop} {ws0 : va_W}
theorem newI (hexec : p.tables.exec = Jvm.exec) (hb : c.code = cc) (harr : (Cond.arrayClass .int).before args s = true) (hK : va_K D vwCl (ty3 cI cZ cM) s) (hP : va_P D vwCl ws0 H) (hD : va_D A ws0) (hS : va_S A s.heap H locs) (hA : ∀ q : Nat, s.heap.size ≤ q → A q) {n : Int32} (N' : Nat) (hn : ¬ n < 0) (hN : n.toNatClampNeg = N') (hsm : N' ≤ 1000) (hcells : cells + 1 ≤ R.cells) (hslots : slots + N' ≤ R.slots) (hdg : decode cc pc = .ok (.newarray .int, 2))
    (kk : ∀ (q : Nat) (H1 : Heap), va_P D vwCl (ws0 ++ [(q, .inl (cI, N', .inl (fun _ => 0)))]) H1 → va_D A (ws0 ++ [(q, .inl (cI, N', .inl (fun _ => 0)))]) → va_S A s.heap H1 locs → W p l e R s m args below meth c H1 locs (cells + 1) (slots + N') Q (F0 m (pc + 2) ls (.ref q :: rest))) : W p l e R s m args below meth c H locs cells slots Q (F0 m pc ls (.int n :: rest)) := by
  refine va_newa (atype := .int) (ty := .int) (N' := N') (a0 := (N', .inl (fun _ => 0))) hexec hb harr rfl hK hP hD hS hA (fun cA => rfl) hn hN ?_ hcells hslots hdg (fun q cA H1 hKn hP hD hS => ?_)
  · have h4 : componentBytes .int = 4 := rfl
    rw [h4]; omega
  · have hcA : cA = cI := arr_same (hKn.2 3 (cA, .int) rfl).2 (hKn.2 0 (cI, .int) rfl).2
    rw [hcA] at hP hD
    exact kk q H1 hP hD hS
theorem newZ (hexec : p.tables.exec = Jvm.exec) (hb : c.code = cc) (harr : (Cond.arrayClass .boolean).before args s = true) (hK : va_K D vwCl (ty3 cI cZ cM) s) (hP : va_P D vwCl ws0 H) (hD : va_D A ws0) (hS : va_S A s.heap H locs) (hA : ∀ q : Nat, s.heap.size ≤ q → A q) {n : Int32} (N' : Nat) (hn : ¬ n < 0) (hN : n.toNatClampNeg = N') (hsm : N' ≤ 1000) (hcells : cells + 1 ≤ R.cells) (hslots : slots + N' ≤ R.slots) (hdg : decode cc pc = .ok (.newarray .boolean, 2))
    (kk : ∀ (q : Nat) (H1 : Heap), va_P D vwCl (ws0 ++ [(q, .inl (cZ, N', .inl (fun _ => 0)))]) H1 → va_D A (ws0 ++ [(q, .inl (cZ, N', .inl (fun _ => 0)))]) → va_S A s.heap H1 locs → W p l e R s m args below meth c H1 locs (cells + 1) (slots + N') Q (F0 m (pc + 2) ls (.ref q :: rest))) : W p l e R s m args below meth c H locs cells slots Q (F0 m pc ls (.int n :: rest)) := by
  refine va_newa (atype := .boolean) (ty := .boolean) (N' := N') (a0 := (N', .inl (fun _ => 0))) hexec hb harr rfl hK hP hD hS hA (fun cA => rfl) hn hN ?_ hcells hslots hdg (fun q cA H1 hKn hP hD hS => ?_)
  · have h4 : componentBytes .boolean = 1 := rfl
    rw [h4]; omega
  · have hcA : cA = cZ := arr_same (hKn.2 3 (cA, .boolean) rfl).2 (hKn.2 1 (cZ, .boolean) rfl).2
    rw [hcA] at hP hD
    exact kk q H1 hP hD hS
theorem newM (hexec : p.tables.exec = Jvm.exec) (hb : c.code = cc) {own : String} {index : Nat} (hown : s.vm.findClass own = some m.cls) (hclink : (Cond.classLink own index RX1).before args s = true) (hover : va_AO RX1 s) (hK : va_K D vwCl (ty3 cI cZ cM) s) (hP : va_P D vwCl ws0 H) (hD : va_D A ws0) (hS : va_S A s.heap H locs) (hA : ∀ q : Nat, s.heap.size ≤ q → A q) {n : Int32} (N' : Nat) (hn : ¬ n < 0) (hN : n.toNatClampNeg = N') (hsm : N' ≤ 1000) (hcells : cells + 1 ≤ R.cells) (hslots : slots + N' ≤ R.slots) (hdg : decode cc pc = .ok (.anewarray index, 3))
    (kk : ∀ (q : Nat) (H1 : Heap), va_P D vwCl (ws0 ++ [(q, .inl (cM, N', .inr (.inr (.inr (.inr (fun _ => none))))))]) H1 → va_D A (ws0 ++ [(q, .inl (cM, N', .inr (.inr (.inr (.inr (fun _ => none))))))]) → va_S A s.heap H1 locs → W p l e R s m args below meth c H1 locs (cells + 1) (slots + N') Q (F0 m (pc + 3) ls (.ref q :: rest))) : W p l e R s m args below meth c H locs cells slots Q (F0 m pc ls (.int n :: rest)) := by
  refine va_newq (C := RX1) (N' := N') hexec hb hown hclink hover hK hP hD hS hA hn hN (by omega) hcells hslots hdg (fun q cA H1 hKn hP hD hS => ?_)
  have hcA : cA = cM := arr_same (hKn.2 3 (cA, .object RX1) rfl).2 (hKn.2 2 (cM, .object RX1) rfl).2
  rw [hcA] at hP hD
  exact kk q H1 hP hD hS
end NW
end
section
theorem dX0_hasPerson_0 : decode cX0_hasPerson 0 = .ok (.iload_n 1, 1) := by decide +kernel
theorem dX0_hasPerson_1 : decode cX0_hasPerson 1 = .ok (.ifCond .lt 15, 3) := by decide +kernel
theorem dX0_hasPerson_4 : decode cX0_hasPerson 4 = .ok (.iload_n 1, 1) := by decide +kernel
theorem dX0_hasPerson_5 : decode cX0_hasPerson 5 = .ok (.aload_n 0, 1) := by decide +kernel
theorem dX0_hasPerson_6 : decode cX0_hasPerson 6 = .ok (.getfield 9, 3) := by decide +kernel
theorem dX0_hasPerson_9 : decode cX0_hasPerson 9 = .ok (.if_icmp .ge 7, 3) := by decide +kernel
theorem dX0_hasPerson_12 : decode cX0_hasPerson 12 = .ok (.iconst 1, 1) := by decide +kernel
theorem dX0_hasPerson_13 : decode cX0_hasPerson 13 = .ok (.goto 4, 3) := by decide +kernel
theorem dX0_hasPerson_16 : decode cX0_hasPerson 16 = .ok (.iconst 0, 1) := by decide +kernel
theorem dX0_hasPerson_17 : decode cX0_hasPerson 17 = .ok (.ireturn, 1) := by decide +kernel
theorem dX1_copy_0 : decode cX1_copy 0 = .ok (.aload_n 0, 1) := by decide +kernel
theorem dX1_copy_1 : decode cX1_copy 1 = .ok (.aload_n 1, 1) := by decide +kernel
theorem dX1_copy_2 : decode cX1_copy 2 = .ok (.getfield 9, 3) := by decide +kernel
theorem dX1_copy_5 : decode cX1_copy 5 = .ok (.putfield 9, 3) := by decide +kernel
theorem dX1_copy_8 : decode cX1_copy 8 = .ok (.aload_n 0, 1) := by decide +kernel
theorem dX1_copy_9 : decode cX1_copy 9 = .ok (.aload_n 1, 1) := by decide +kernel
theorem dX1_copy_10 : decode cX1_copy 10 = .ok (.getfield 15, 3) := by decide +kernel
theorem dX1_copy_13 : decode cX1_copy 13 = .ok (.putfield 15, 3) := by decide +kernel
theorem dX1_copy_16 : decode cX1_copy 16 = .ok (.aload_n 0, 1) := by decide +kernel
theorem dX1_copy_17 : decode cX1_copy 17 = .ok (.aload_n 1, 1) := by decide +kernel
theorem dX1_copy_18 : decode cX1_copy 18 = .ok (.getfield 18, 3) := by decide +kernel
theorem dX1_copy_21 : decode cX1_copy 21 = .ok (.putfield 18, 3) := by decide +kernel
theorem dX1_copy_24 : decode cX1_copy 24 = .ok (.aload_n 0, 1) := by decide +kernel
theorem dX1_copy_25 : decode cX1_copy 25 = .ok (.aload_n 1, 1) := by decide +kernel
theorem dX1_copy_26 : decode cX1_copy 26 = .ok (.getfield 21, 3) := by decide +kernel
theorem dX1_copy_29 : decode cX1_copy 29 = .ok (.putfield 21, 3) := by decide +kernel
theorem dX1_copy_32 : decode cX1_copy 32 = .ok (.aload_n 1, 1) := by decide +kernel
theorem dX1_copy_33 : decode cX1_copy 33 = .ok (.getfield 24, 3) := by decide +kernel
theorem dX1_copy_36 : decode cX1_copy 36 = .ok (.iconst 0, 1) := by decide +kernel
theorem dX1_copy_37 : decode cX1_copy 37 = .ok (.aload_n 0, 1) := by decide +kernel
theorem dX1_copy_38 : decode cX1_copy 38 = .ok (.getfield 24, 3) := by decide +kernel
theorem dX1_copy_41 : decode cX1_copy 41 = .ok (.iconst 0, 1) := by decide +kernel
theorem dX1_copy_42 : decode cX1_copy 42 = .ok (.iconst 5, 1) := by decide +kernel
theorem dX1_copy_43 : decode cX1_copy 43 = .ok (.invokestatic 44, 3) := by decide +kernel
theorem dX1_copy_46 : decode cX1_copy 46 = .ok (.aload_n 1, 1) := by decide +kernel
theorem dX1_copy_47 : decode cX1_copy 47 = .ok (.getfield 28, 3) := by decide +kernel
theorem dX1_copy_50 : decode cX1_copy 50 = .ok (.iconst 0, 1) := by decide +kernel
theorem dX1_copy_51 : decode cX1_copy 51 = .ok (.aload_n 0, 1) := by decide +kernel
theorem dX1_copy_52 : decode cX1_copy 52 = .ok (.getfield 28, 3) := by decide +kernel
theorem dX1_copy_55 : decode cX1_copy 55 = .ok (.iconst 0, 1) := by decide +kernel
theorem dX1_copy_56 : decode cX1_copy 56 = .ok (.bipush 6, 2) := by decide +kernel
theorem dX1_copy_58 : decode cX1_copy 58 = .ok (.invokestatic 44, 3) := by decide +kernel
theorem dX1_copy_61 : decode cX1_copy 61 = .ok (.aload_n 1, 1) := by decide +kernel
theorem dX1_copy_62 : decode cX1_copy 62 = .ok (.getfield 31, 3) := by decide +kernel
theorem dX1_copy_65 : decode cX1_copy 65 = .ok (.iconst 0, 1) := by decide +kernel
theorem dX1_copy_66 : decode cX1_copy 66 = .ok (.aload_n 0, 1) := by decide +kernel
theorem dX1_copy_67 : decode cX1_copy 67 = .ok (.getfield 31, 3) := by decide +kernel
theorem dX1_copy_70 : decode cX1_copy 70 = .ok (.iconst 0, 1) := by decide +kernel
theorem dX1_copy_71 : decode cX1_copy 71 = .ok (.bipush 6, 2) := by decide +kernel
theorem dX1_copy_73 : decode cX1_copy 73 = .ok (.invokestatic 44, 3) := by decide +kernel
theorem dX1_copy_76 : decode cX1_copy 76 = .ok (.return_, 1) := by decide +kernel
theorem dX1_hasTicket_0 : decode cX1_hasTicket 0 = .ok (.iload_n 1, 1) := by decide +kernel
theorem dX1_hasTicket_1 : decode cX1_hasTicket 1 = .ok (.ifCond .lt 15, 3) := by decide +kernel
theorem dX1_hasTicket_4 : decode cX1_hasTicket 4 = .ok (.iload_n 1, 1) := by decide +kernel
theorem dX1_hasTicket_5 : decode cX1_hasTicket 5 = .ok (.aload_n 0, 1) := by decide +kernel
theorem dX1_hasTicket_6 : decode cX1_hasTicket 6 = .ok (.getfield 15, 3) := by decide +kernel
theorem dX1_hasTicket_9 : decode cX1_hasTicket 9 = .ok (.if_icmp .ge 7, 3) := by decide +kernel
theorem dX1_hasTicket_12 : decode cX1_hasTicket 12 = .ok (.iconst 1, 1) := by decide +kernel
theorem dX1_hasTicket_13 : decode cX1_hasTicket 13 = .ok (.goto 4, 3) := by decide +kernel
theorem dX1_hasTicket_16 : decode cX1_hasTicket 16 = .ok (.iconst 0, 1) := by decide +kernel
theorem dX1_hasTicket_17 : decode cX1_hasTicket 17 = .ok (.ireturn, 1) := by decide +kernel
theorem dX1_isGone_0 : decode cX1_isGone 0 = .ok (.aload_n 0, 1) := by decide +kernel
theorem dX1_isGone_1 : decode cX1_isGone 1 = .ok (.getfield 21, 3) := by decide +kernel
theorem dX1_isGone_4 : decode cX1_isGone 4 = .ok (.iload_n 1, 1) := by decide +kernel
theorem dX1_isGone_5 : decode cX1_isGone 5 = .ok (.ishr, 1) := by decide +kernel
theorem dX1_isGone_6 : decode cX1_isGone 6 = .ok (.iconst 1, 1) := by decide +kernel
theorem dX1_isGone_7 : decode cX1_isGone 7 = .ok (.iand, 1) := by decide +kernel
theorem dX1_isGone_8 : decode cX1_isGone 8 = .ok (.ifCond .eq 7, 3) := by decide +kernel
theorem dX1_isGone_11 : decode cX1_isGone 11 = .ok (.iconst 1, 1) := by decide +kernel
theorem dX1_isGone_12 : decode cX1_isGone 12 = .ok (.goto 4, 3) := by decide +kernel
theorem dX1_isGone_15 : decode cX1_isGone 15 = .ok (.iconst 0, 1) := by decide +kernel
theorem dX1_isGone_16 : decode cX1_isGone 16 = .ok (.ireturn, 1) := by decide +kernel
theorem dX1_isReturn_0 : decode cX1_isReturn 0 = .ok (.aload_n 0, 1) := by decide +kernel
theorem dX1_isReturn_1 : decode cX1_isReturn 1 = .ok (.getfield 18, 3) := by decide +kernel
theorem dX1_isReturn_4 : decode cX1_isReturn 4 = .ok (.iload_n 1, 1) := by decide +kernel
theorem dX1_isReturn_5 : decode cX1_isReturn 5 = .ok (.ishr, 1) := by decide +kernel
theorem dX1_isReturn_6 : decode cX1_isReturn 6 = .ok (.iconst 1, 1) := by decide +kernel
theorem dX1_isReturn_7 : decode cX1_isReturn 7 = .ok (.iand, 1) := by decide +kernel
theorem dX1_isReturn_8 : decode cX1_isReturn 8 = .ok (.ifCond .eq 7, 3) := by decide +kernel
theorem dX1_isReturn_11 : decode cX1_isReturn 11 = .ok (.iconst 1, 1) := by decide +kernel
theorem dX1_isReturn_12 : decode cX1_isReturn 12 = .ok (.goto 4, 3) := by decide +kernel
theorem dX1_isReturn_15 : decode cX1_isReturn 15 = .ok (.iconst 0, 1) := by decide +kernel
theorem dX1_isReturn_16 : decode cX1_isReturn 16 = .ok (.ireturn, 1) := by decide +kernel
set_option maxRecDepth 20000 in
theorem ggX1_to_X1_isReturn : GoodIn wsX1_to wsX1_isReturn := goodIn_r _ [8, 9, 10, 11, 12, 13, 14, 15, 16, 17] (by decide +kernel) (by decide +kernel)
set_option maxRecDepth 20000 in
theorem gX1_to_X1_isReturn : GoodIn wsX1_to (wsV RX1 52 RX1 yX1_isReturn wsX1_isReturn) := goodIn_app (goodIn_of _ (by decide +kernel)) ggX1_to_X1_isReturn
theorem dX1_to_0 : decode cX1_to 0 = .ok (.aload_n 0, 1) := by decide +kernel
theorem dX1_to_1 : decode cX1_to 1 = .ok (.iload_n 1, 1) := by decide +kernel
theorem dX1_to_2 : decode cX1_to 2 = .ok (.invokevirtual 52, 3) := by decide +kernel
theorem dX1_to_5 : decode cX1_to 5 = .ok (.ifCond .eq 15, 3) := by decide +kernel
theorem dX1_to_8 : decode cX1_to 8 = .ok (.aload_n 0, 1) := by decide +kernel
theorem dX1_to_9 : decode cX1_to 9 = .ok (.getfield 34, 3) := by decide +kernel
theorem dX1_to_12 : decode cX1_to 12 = .ok (.getfield 59, 3) := by decide +kernel
theorem dX1_to_15 : decode cX1_to 15 = .ok (.iload_n 1, 1) := by decide +kernel
theorem dX1_to_16 : decode cX1_to 16 = .ok (.iaload, 1) := by decide +kernel
theorem dX1_to_17 : decode cX1_to 17 = .ok (.goto 12, 3) := by decide +kernel
theorem dX1_to_20 : decode cX1_to 20 = .ok (.aload_n 0, 1) := by decide +kernel
theorem dX1_to_21 : decode cX1_to 21 = .ok (.getfield 34, 3) := by decide +kernel
theorem dX1_to_24 : decode cX1_to 24 = .ok (.getfield 56, 3) := by decide +kernel
theorem dX1_to_27 : decode cX1_to 27 = .ok (.iload_n 1, 1) := by decide +kernel
theorem dX1_to_28 : decode cX1_to 28 = .ok (.iaload, 1) := by decide +kernel
theorem dX1_to_29 : decode cX1_to 29 = .ok (.ireturn, 1) := by decide +kernel
theorem dX1_canTake_0 : decode cX1_canTake 0 = .ok (.iconst 1, 1) := by decide +kernel
theorem dX1_canTake_1 : decode cX1_canTake 1 = .ok (.iload_n 1, 1) := by decide +kernel
theorem dX1_canTake_2 : decode cX1_canTake 2 = .ok (.ishl, 1) := by decide +kernel
theorem dX1_canTake_3 : decode cX1_canTake 3 = .ok (.istore_n 3, 1) := by decide +kernel
theorem dX1_canTake_4 : decode cX1_canTake 4 = .ok (.aload_n 0, 1) := by decide +kernel
theorem dX1_canTake_5 : decode cX1_canTake 5 = .ok (.getfield 18, 3) := by decide +kernel
theorem dX1_canTake_8 : decode cX1_canTake 8 = .ok (.iload_n 3, 1) := by decide +kernel
theorem dX1_canTake_9 : decode cX1_canTake 9 = .ok (.iand, 1) := by decide +kernel
theorem dX1_canTake_10 : decode cX1_canTake 10 = .ok (.ifCond .eq 15, 3) := by decide +kernel
theorem dX1_canTake_13 : decode cX1_canTake 13 = .ok (.aload_n 0, 1) := by decide +kernel
theorem dX1_canTake_14 : decode cX1_canTake 14 = .ok (.getfield 34, 3) := by decide +kernel
theorem dX1_canTake_17 : decode cX1_canTake 17 = .ok (.getfield 56, 3) := by decide +kernel
theorem dX1_canTake_20 : decode cX1_canTake 20 = .ok (.iload_n 1, 1) := by decide +kernel
theorem dX1_canTake_21 : decode cX1_canTake 21 = .ok (.iaload, 1) := by decide +kernel
theorem dX1_canTake_22 : decode cX1_canTake 22 = .ok (.goto 12, 3) := by decide +kernel
theorem dX1_canTake_25 : decode cX1_canTake 25 = .ok (.aload_n 0, 1) := by decide +kernel
theorem dX1_canTake_26 : decode cX1_canTake 26 = .ok (.getfield 34, 3) := by decide +kernel
theorem dX1_canTake_29 : decode cX1_canTake 29 = .ok (.getfield 59, 3) := by decide +kernel
theorem dX1_canTake_32 : decode cX1_canTake 32 = .ok (.iload_n 1, 1) := by decide +kernel
theorem dX1_canTake_33 : decode cX1_canTake 33 = .ok (.iaload, 1) := by decide +kernel
theorem dX1_canTake_34 : decode cX1_canTake 34 = .ok (.istore 4, 2) := by decide +kernel
theorem dX1_canTake_36 : decode cX1_canTake 36 = .ok (.aload_n 0, 1) := by decide +kernel
theorem dX1_canTake_37 : decode cX1_canTake 37 = .ok (.getfield 21, 3) := by decide +kernel
theorem dX1_canTake_40 : decode cX1_canTake 40 = .ok (.iload_n 3, 1) := by decide +kernel
theorem dX1_canTake_41 : decode cX1_canTake 41 = .ok (.iand, 1) := by decide +kernel
theorem dX1_canTake_42 : decode cX1_canTake 42 = .ok (.ifCond .ne 31, 3) := by decide +kernel
theorem dX1_canTake_45 : decode cX1_canTake 45 = .ok (.aload_n 0, 1) := by decide +kernel
theorem dX1_canTake_46 : decode cX1_canTake 46 = .ok (.getfield 34, 3) := by decide +kernel
theorem dX1_canTake_49 : decode cX1_canTake 49 = .ok (.getfield 78, 3) := by decide +kernel
theorem dX1_canTake_52 : decode cX1_canTake 52 = .ok (.iload_n 2, 1) := by decide +kernel
theorem dX1_canTake_53 : decode cX1_canTake 53 = .ok (.iaload, 1) := by decide +kernel
theorem dX1_canTake_54 : decode cX1_canTake 54 = .ok (.iconst 3, 1) := by decide +kernel
theorem dX1_canTake_55 : decode cX1_canTake 55 = .ok (.if_icmp .eq 18, 3) := by decide +kernel
theorem dX1_canTake_58 : decode cX1_canTake 58 = .ok (.iload 4, 2) := by decide +kernel
theorem dX1_canTake_60 : decode cX1_canTake 60 = .ok (.aload_n 0, 1) := by decide +kernel
theorem dX1_canTake_61 : decode cX1_canTake 61 = .ok (.getfield 24, 3) := by decide +kernel
theorem dX1_canTake_64 : decode cX1_canTake 64 = .ok (.iload_n 2, 1) := by decide +kernel
theorem dX1_canTake_65 : decode cX1_canTake 65 = .ok (.iaload, 1) := by decide +kernel
theorem dX1_canTake_66 : decode cX1_canTake 66 = .ok (.if_icmp .ne 7, 3) := by decide +kernel
theorem dX1_canTake_69 : decode cX1_canTake 69 = .ok (.iconst 1, 1) := by decide +kernel
theorem dX1_canTake_70 : decode cX1_canTake 70 = .ok (.goto 4, 3) := by decide +kernel
theorem dX1_canTake_73 : decode cX1_canTake 73 = .ok (.iconst 0, 1) := by decide +kernel
theorem dX1_canTake_74 : decode cX1_canTake 74 = .ok (.ireturn, 1) := by decide +kernel
set_option maxHeartbeats 600000 in
set_option maxRecDepth 100000 in
theorem c_X0_hasPerson (l : Launch) (D : va_G) (cI cZ cM : ClassId) (h0 : Nat) (n : Int32) (lpe : Int32) (ltk : Int32) (lho : Nat) (lli : Nat) (lki : Nat) (lfd : Nat) (lfr : Nat) (lto : Nat) (lse : Nat) (lhl : Nat) (sz : Nat)  : Ci l yX0_hasPerson wsX0_hasPerson ({ frames := 0, cells := 0, slots := 0, locals := 0 } : Room) D cI cZ cM [.ref h0, .int n] [(h0, .inr (0, [.int lpe, .int ltk, .ref lho, .ref lli, .ref lki, .ref lfd, .ref lfr, .ref lto, .ref lse, .ref lhl]))] sz (fun (r : Int32) (u : Unit) => (r.toInt = 1 ∧ 0 ≤ n.toInt ∧ n.toInt < lpe.toInt) ∨ (r.toInt = 0 ∧ (n.toInt < 0 ∨ lpe.toInt ≤ n.toInt))) (fun u => [(h0, .inr (0, [.int lpe, .int ltk, .ref lho, .ref lli, .ref lki, .ref lfd, .ref lfr, .ref lto, .ref lse, .ref lhl]))]) 0 0 := by
  refine begins (l := l) (y := yX0_hasPerson) (ws := wsX0_hasPerson) (av := [.ref h0, .int n]) (Qc := fun A => va_Qi (fun (r : Int32) (u : Unit) => (r.toInt = 1 ∧ 0 ≤ n.toInt ∧ n.toInt < lpe.toInt) ∨ (r.toInt = 0 ∧ (n.toInt < 0 ∨ lpe.toInt ≤ n.toInt))) (fun u => Wd D cI cZ cM A ((fun u => [(h0, .inr (0, [.int lpe, .int ltk, .ref lho, .ref lli, .ref lki, .ref lfd, .ref lfr, .ref lto, .ref lse, .ref lhl]))]) u)) A) cX0_hasPerson 2 (some .boolean) (by decide) rfl (Nat.le_of_ble_eq_true rfl) ?_
  intro p e s m args below meth c R Q A ls hBd hR hQ hA hS hK hP hD hl
  obtain ⟨hx, hb, hr, hts, hown, hlocks, hin, hml⟩ := hBd
  have hl : lv_has ls 2 [(0, .ref h0), (1, .int n)] := hl
  have iX0 : ∀ w ∈ wsX00, w ∈ wsX0_hasPerson := fun _ h => List.mem_cons_of_mem _ (List.mem_append_right _ h)
  refine lv_iload_n hx hb dX0_hasPerson_0 rfl (lv_at hl 1 rfl) ?_
  refine lv_if_lt (tgt := 16) hx hb dX0_hasPerson_1 (by decide) (fun c_1 => ?_) (fun c_1 => ?_)
  · have tc_1 := b_lt rfl (show (0 : Int32).toInt = 0 by decide) c_1
    refine lv_iconst (v := 0) hx hb dX0_hasPerson_16 (by decide) ?_
    exact ret_i (post := (fun (r : Int32) (u : Unit) => (r.toInt = 1 ∧ 0 ≤ n.toInt ∧ n.toInt < lpe.toInt) ∨ (r.toInt = 0 ∧ (n.toInt < 0 ∨ lpe.toInt ≤ n.toInt)))) (W1 := (fun u => [(h0, .inr (0, [.int lpe, .int ltk, .ref lho, .ref lli, .ref lki, .ref lfd, .ref lfr, .ref lto, .ref lse, .ref lhl]))])) () hx hb hr hlocks rfl hQ hK hP hD hS ⟨by decide, by decide⟩ dX0_hasPerson_17 (show ((0 : Int) = 1 ∧ 0 ≤ n.toInt ∧ n.toInt < lpe.toInt) ∨ ((0 : Int) = 0 ∧ (n.toInt < 0 ∨ lpe.toInt ≤ n.toInt)) by omega)
  · have tc_1 := b_nlt rfl (show (0 : Int32).toInt = 0 by decide) c_1
    refine lv_iload_n hx hb dX0_hasPerson_4 rfl (lv_at hl 1 rfl) ?_
    refine lv_aload_n hx hb dX0_hasPerson_5 rfl (lv_at hl 0 rfl) ?_
    refine va_get (D := D) (ci := 0) (v := .int lpe) (C := RX0) (T := TX0) (N := 10) hx hb hts iX0 hown hK hP 0 rfl rfl 0 (by decide) (hts (.fieldLink RX0 9 "PunchedTicket$Line" "people" "I") (List.mem_of_getElem? (i := 1) rfl)) (fun _ h9 => h9) rfl dX0_hasPerson_6 ?_
    refine lv_icmp_ge (tgt := 16) hx hb dX0_hasPerson_9 (by decide) (fun c_2 => ?_) (fun c_2 => ?_)
    · have tc_2 := b_le rfl rfl c_2
      refine lv_iconst (v := 0) hx hb dX0_hasPerson_16 (by decide) ?_
      exact ret_i (post := (fun (r : Int32) (u : Unit) => (r.toInt = 1 ∧ 0 ≤ n.toInt ∧ n.toInt < lpe.toInt) ∨ (r.toInt = 0 ∧ (n.toInt < 0 ∨ lpe.toInt ≤ n.toInt)))) (W1 := (fun u => [(h0, .inr (0, [.int lpe, .int ltk, .ref lho, .ref lli, .ref lki, .ref lfd, .ref lfr, .ref lto, .ref lse, .ref lhl]))])) () hx hb hr hlocks rfl hQ hK hP hD hS ⟨by decide, by decide⟩ dX0_hasPerson_17 (show ((0 : Int) = 1 ∧ 0 ≤ n.toInt ∧ n.toInt < lpe.toInt) ∨ ((0 : Int) = 0 ∧ (n.toInt < 0 ∨ lpe.toInt ≤ n.toInt)) by omega)
    · have tc_2 := b_nle rfl rfl c_2
      refine lv_iconst (v := 1) hx hb dX0_hasPerson_12 (by decide) ?_
      refine lv_goto (tgt := 17) hx hb dX0_hasPerson_13 (by decide) ?_
      exact ret_i (post := (fun (r : Int32) (u : Unit) => (r.toInt = 1 ∧ 0 ≤ n.toInt ∧ n.toInt < lpe.toInt) ∨ (r.toInt = 0 ∧ (n.toInt < 0 ∨ lpe.toInt ≤ n.toInt)))) (W1 := (fun u => [(h0, .inr (0, [.int lpe, .int ltk, .ref lho, .ref lli, .ref lki, .ref lfd, .ref lfr, .ref lto, .ref lse, .ref lhl]))])) () hx hb hr hlocks rfl hQ hK hP hD hS ⟨by decide, by decide⟩ dX0_hasPerson_17 (show ((1 : Int) = 1 ∧ 0 ≤ n.toInt ∧ n.toInt < lpe.toInt) ∨ ((1 : Int) = 0 ∧ (n.toInt < 0 ∨ lpe.toInt ≤ n.toInt)) by omega)

set_option maxHeartbeats 600000 in
set_option maxRecDepth 100000 in
theorem c_X1_hasTicket (l : Launch) (D : va_G) (cI cZ cM : ClassId) (h0 : Nat) (n : Int32) (ln : Nat) (md : Int32) (mt : Int32) (mr : Int32) (mg : Int32) (mat : Nat) (mfd : Nat) (mhd : Nat) (sz : Nat)  : Ci l yX1_hasTicket wsX1_hasTicket ({ frames := 0, cells := 0, slots := 0, locals := 0 } : Room) D cI cZ cM [.ref h0, .int n] [(h0, .inr (1, [.ref ln, .int md, .int mt, .int mr, .int mg, .ref mat, .ref mfd, .ref mhd]))] sz (fun (r : Int32) (u : Unit) => (r.toInt = 1 ∧ 0 ≤ n.toInt ∧ n.toInt < mt.toInt) ∨ (r.toInt = 0 ∧ (n.toInt < 0 ∨ mt.toInt ≤ n.toInt))) (fun u => [(h0, .inr (1, [.ref ln, .int md, .int mt, .int mr, .int mg, .ref mat, .ref mfd, .ref mhd]))]) 0 0 := by
  refine begins (l := l) (y := yX1_hasTicket) (ws := wsX1_hasTicket) (av := [.ref h0, .int n]) (Qc := fun A => va_Qi (fun (r : Int32) (u : Unit) => (r.toInt = 1 ∧ 0 ≤ n.toInt ∧ n.toInt < mt.toInt) ∨ (r.toInt = 0 ∧ (n.toInt < 0 ∨ mt.toInt ≤ n.toInt))) (fun u => Wd D cI cZ cM A ((fun u => [(h0, .inr (1, [.ref ln, .int md, .int mt, .int mr, .int mg, .ref mat, .ref mfd, .ref mhd]))]) u)) A) cX1_hasTicket 2 (some .boolean) (by decide) rfl (Nat.le_of_ble_eq_true rfl) ?_
  intro p e s m args below meth c R Q A ls hBd hR hQ hA hS hK hP hD hl
  obtain ⟨hx, hb, hr, hts, hown, hlocks, hin, hml⟩ := hBd
  have hl : lv_has ls 2 [(0, .ref h0), (1, .int n)] := hl
  have iX1 : ∀ w ∈ wsX10, w ∈ wsX1_hasTicket := fun _ h => List.mem_cons_of_mem _ (List.mem_append_right _ h)
  refine lv_iload_n hx hb dX1_hasTicket_0 rfl (lv_at hl 1 rfl) ?_
  refine lv_if_lt (tgt := 16) hx hb dX1_hasTicket_1 (by decide) (fun c_1 => ?_) (fun c_1 => ?_)
  · have tc_1 := b_lt rfl (show (0 : Int32).toInt = 0 by decide) c_1
    refine lv_iconst (v := 0) hx hb dX1_hasTicket_16 (by decide) ?_
    exact ret_i (post := (fun (r : Int32) (u : Unit) => (r.toInt = 1 ∧ 0 ≤ n.toInt ∧ n.toInt < mt.toInt) ∨ (r.toInt = 0 ∧ (n.toInt < 0 ∨ mt.toInt ≤ n.toInt)))) (W1 := (fun u => [(h0, .inr (1, [.ref ln, .int md, .int mt, .int mr, .int mg, .ref mat, .ref mfd, .ref mhd]))])) () hx hb hr hlocks rfl hQ hK hP hD hS ⟨by decide, by decide⟩ dX1_hasTicket_17 (show ((0 : Int) = 1 ∧ 0 ≤ n.toInt ∧ n.toInt < mt.toInt) ∨ ((0 : Int) = 0 ∧ (n.toInt < 0 ∨ mt.toInt ≤ n.toInt)) by omega)
  · have tc_1 := b_nlt rfl (show (0 : Int32).toInt = 0 by decide) c_1
    refine lv_iload_n hx hb dX1_hasTicket_4 rfl (lv_at hl 1 rfl) ?_
    refine lv_aload_n hx hb dX1_hasTicket_5 rfl (lv_at hl 0 rfl) ?_
    refine va_get (D := D) (ci := 1) (v := .int mt) (C := RX1) (T := TX1) (N := 8) hx hb hts iX1 hown hK hP 0 rfl rfl 2 (by decide) (hts (.fieldLink RX1 15 "PunchedTicket$Moment" "tickets" "I") (List.mem_of_getElem? (i := 1) rfl)) (fun _ h9 => h9) rfl dX1_hasTicket_6 ?_
    refine lv_icmp_ge (tgt := 16) hx hb dX1_hasTicket_9 (by decide) (fun c_2 => ?_) (fun c_2 => ?_)
    · have tc_2 := b_le rfl rfl c_2
      refine lv_iconst (v := 0) hx hb dX1_hasTicket_16 (by decide) ?_
      exact ret_i (post := (fun (r : Int32) (u : Unit) => (r.toInt = 1 ∧ 0 ≤ n.toInt ∧ n.toInt < mt.toInt) ∨ (r.toInt = 0 ∧ (n.toInt < 0 ∨ mt.toInt ≤ n.toInt)))) (W1 := (fun u => [(h0, .inr (1, [.ref ln, .int md, .int mt, .int mr, .int mg, .ref mat, .ref mfd, .ref mhd]))])) () hx hb hr hlocks rfl hQ hK hP hD hS ⟨by decide, by decide⟩ dX1_hasTicket_17 (show ((0 : Int) = 1 ∧ 0 ≤ n.toInt ∧ n.toInt < mt.toInt) ∨ ((0 : Int) = 0 ∧ (n.toInt < 0 ∨ mt.toInt ≤ n.toInt)) by omega)
    · have tc_2 := b_nle rfl rfl c_2
      refine lv_iconst (v := 1) hx hb dX1_hasTicket_12 (by decide) ?_
      refine lv_goto (tgt := 17) hx hb dX1_hasTicket_13 (by decide) ?_
      exact ret_i (post := (fun (r : Int32) (u : Unit) => (r.toInt = 1 ∧ 0 ≤ n.toInt ∧ n.toInt < mt.toInt) ∨ (r.toInt = 0 ∧ (n.toInt < 0 ∨ mt.toInt ≤ n.toInt)))) (W1 := (fun u => [(h0, .inr (1, [.ref ln, .int md, .int mt, .int mr, .int mg, .ref mat, .ref mfd, .ref mhd]))])) () hx hb hr hlocks rfl hQ hK hP hD hS ⟨by decide, by decide⟩ dX1_hasTicket_17 (show ((1 : Int) = 1 ∧ 0 ≤ n.toInt ∧ n.toInt < mt.toInt) ∨ ((1 : Int) = 0 ∧ (n.toInt < 0 ∨ mt.toInt ≤ n.toInt)) by omega)

set_option maxHeartbeats 600000 in
set_option maxRecDepth 100000 in
theorem c_X1_isReturn (l : Launch) (D : va_G) (cI cZ cM : ClassId) (h0 : Nat) (n : Int32) (ln : Nat) (md : Int32) (mt : Int32) (mr : Int32) (mg : Int32) (mat : Nat) (mfd : Nat) (mhd : Nat) (sz : Nat)  : Ci l yX1_isReturn wsX1_isReturn ({ frames := 0, cells := 0, slots := 0, locals := 0 } : Room) D cI cZ cM [.ref h0, .int n] [(h0, .inr (1, [.ref ln, .int md, .int mt, .int mr, .int mg, .ref mat, .ref mfd, .ref mhd]))] sz (fun (r : Int32) (u : Unit) => (r.toInt = 0 ∨ r.toInt = 1)) (fun u => [(h0, .inr (1, [.ref ln, .int md, .int mt, .int mr, .int mg, .ref mat, .ref mfd, .ref mhd]))]) 0 0 := by
  refine begins (l := l) (y := yX1_isReturn) (ws := wsX1_isReturn) (av := [.ref h0, .int n]) (Qc := fun A => va_Qi (fun (r : Int32) (u : Unit) => (r.toInt = 0 ∨ r.toInt = 1)) (fun u => Wd D cI cZ cM A ((fun u => [(h0, .inr (1, [.ref ln, .int md, .int mt, .int mr, .int mg, .ref mat, .ref mfd, .ref mhd]))]) u)) A) cX1_isReturn 2 (some .boolean) (by decide) rfl (Nat.le_of_ble_eq_true rfl) ?_
  intro p e s m args below meth c R Q A ls hBd hR hQ hA hS hK hP hD hl
  obtain ⟨hx, hb, hr, hts, hown, hlocks, hin, hml⟩ := hBd
  have hl : lv_has ls 2 [(0, .ref h0), (1, .int n)] := hl
  have iX1 : ∀ w ∈ wsX10, w ∈ wsX1_isReturn := fun _ h => List.mem_cons_of_mem _ (List.mem_append_right _ h)
  refine lv_aload_n hx hb dX1_isReturn_0 rfl (lv_at hl 0 rfl) ?_
  refine va_get (D := D) (ci := 1) (v := .int mr) (C := RX1) (T := TX1) (N := 8) hx hb hts iX1 hown hK hP 0 rfl rfl 3 (by decide) (hts (.fieldLink RX1 18 "PunchedTicket$Moment" "returns" "I") (List.mem_of_getElem? (i := 1) rfl)) (fun _ h9 => h9) rfl dX1_isReturn_1 ?_
  refine lv_iload_n hx hb dX1_isReturn_4 rfl (lv_at hl 1 rfl) ?_
  refine lv_ishr hx hb dX1_isReturn_5 ?_
  refine lv_topi (fun v_1 ev_1 => ?_)
  refine lv_iconst (v := 1) hx hb dX1_isReturn_6 (by decide) ?_
  refine lv_iand hx hb dX1_isReturn_7 ?_
  refine lv_topi (fun v_2 ev_2 => ?_)
  refine lv_if_eq (tgt := 15) hx hb dX1_isReturn_8 (by decide) (fun c_3 => ?_) (fun c_3 => ?_)
  · have tc_3 := b_eq rfl (show (0 : Int32).toInt = 0 by decide) c_3
    refine lv_iconst (v := 0) hx hb dX1_isReturn_15 (by decide) ?_
    exact ret_i (post := (fun (r : Int32) (u : Unit) => (r.toInt = 0 ∨ r.toInt = 1))) (W1 := (fun u => [(h0, .inr (1, [.ref ln, .int md, .int mt, .int mr, .int mg, .ref mat, .ref mfd, .ref mhd]))])) () hx hb hr hlocks rfl hQ hK hP hD hS ⟨by decide, by decide⟩ dX1_isReturn_16 (show ((0 : Int) = 0 ∨ (0 : Int) = 1) by omega)
  · have tc_3 := b_ne rfl (show (0 : Int32).toInt = 0 by decide) c_3
    refine lv_iconst (v := 1) hx hb dX1_isReturn_11 (by decide) ?_
    refine lv_goto (tgt := 16) hx hb dX1_isReturn_12 (by decide) ?_
    exact ret_i (post := (fun (r : Int32) (u : Unit) => (r.toInt = 0 ∨ r.toInt = 1))) (W1 := (fun u => [(h0, .inr (1, [.ref ln, .int md, .int mt, .int mr, .int mg, .ref mat, .ref mfd, .ref mhd]))])) () hx hb hr hlocks rfl hQ hK hP hD hS ⟨by decide, by decide⟩ dX1_isReturn_16 (show ((1 : Int) = 0 ∨ (1 : Int) = 1) by omega)

set_option maxHeartbeats 600000 in
set_option maxRecDepth 100000 in
theorem c_X1_isGone (l : Launch) (D : va_G) (cI cZ cM : ClassId) (h0 : Nat) (n : Int32) (ln : Nat) (md : Int32) (mt : Int32) (mr : Int32) (mg : Int32) (mat : Nat) (mfd : Nat) (mhd : Nat) (sz : Nat)  : Ci l yX1_isGone wsX1_isGone ({ frames := 0, cells := 0, slots := 0, locals := 0 } : Room) D cI cZ cM [.ref h0, .int n] [(h0, .inr (1, [.ref ln, .int md, .int mt, .int mr, .int mg, .ref mat, .ref mfd, .ref mhd]))] sz (fun (r : Int32) (u : Unit) => (r.toInt = 0 ∨ r.toInt = 1)) (fun u => [(h0, .inr (1, [.ref ln, .int md, .int mt, .int mr, .int mg, .ref mat, .ref mfd, .ref mhd]))]) 0 0 := by
  refine begins (l := l) (y := yX1_isGone) (ws := wsX1_isGone) (av := [.ref h0, .int n]) (Qc := fun A => va_Qi (fun (r : Int32) (u : Unit) => (r.toInt = 0 ∨ r.toInt = 1)) (fun u => Wd D cI cZ cM A ((fun u => [(h0, .inr (1, [.ref ln, .int md, .int mt, .int mr, .int mg, .ref mat, .ref mfd, .ref mhd]))]) u)) A) cX1_isGone 2 (some .boolean) (by decide) rfl (Nat.le_of_ble_eq_true rfl) ?_
  intro p e s m args below meth c R Q A ls hBd hR hQ hA hS hK hP hD hl
  obtain ⟨hx, hb, hr, hts, hown, hlocks, hin, hml⟩ := hBd
  have hl : lv_has ls 2 [(0, .ref h0), (1, .int n)] := hl
  have iX1 : ∀ w ∈ wsX10, w ∈ wsX1_isGone := fun _ h => List.mem_cons_of_mem _ (List.mem_append_right _ h)
  refine lv_aload_n hx hb dX1_isGone_0 rfl (lv_at hl 0 rfl) ?_
  refine va_get (D := D) (ci := 1) (v := .int mg) (C := RX1) (T := TX1) (N := 8) hx hb hts iX1 hown hK hP 0 rfl rfl 4 (by decide) (hts (.fieldLink RX1 21 "PunchedTicket$Moment" "gone" "I") (List.mem_of_getElem? (i := 1) rfl)) (fun _ h9 => h9) rfl dX1_isGone_1 ?_
  refine lv_iload_n hx hb dX1_isGone_4 rfl (lv_at hl 1 rfl) ?_
  refine lv_ishr hx hb dX1_isGone_5 ?_
  refine lv_topi (fun v_1 ev_1 => ?_)
  refine lv_iconst (v := 1) hx hb dX1_isGone_6 (by decide) ?_
  refine lv_iand hx hb dX1_isGone_7 ?_
  refine lv_topi (fun v_2 ev_2 => ?_)
  refine lv_if_eq (tgt := 15) hx hb dX1_isGone_8 (by decide) (fun c_3 => ?_) (fun c_3 => ?_)
  · have tc_3 := b_eq rfl (show (0 : Int32).toInt = 0 by decide) c_3
    refine lv_iconst (v := 0) hx hb dX1_isGone_15 (by decide) ?_
    exact ret_i (post := (fun (r : Int32) (u : Unit) => (r.toInt = 0 ∨ r.toInt = 1))) (W1 := (fun u => [(h0, .inr (1, [.ref ln, .int md, .int mt, .int mr, .int mg, .ref mat, .ref mfd, .ref mhd]))])) () hx hb hr hlocks rfl hQ hK hP hD hS ⟨by decide, by decide⟩ dX1_isGone_16 (show ((0 : Int) = 0 ∨ (0 : Int) = 1) by omega)
  · have tc_3 := b_ne rfl (show (0 : Int32).toInt = 0 by decide) c_3
    refine lv_iconst (v := 1) hx hb dX1_isGone_11 (by decide) ?_
    refine lv_goto (tgt := 16) hx hb dX1_isGone_12 (by decide) ?_
    exact ret_i (post := (fun (r : Int32) (u : Unit) => (r.toInt = 0 ∨ r.toInt = 1))) (W1 := (fun u => [(h0, .inr (1, [.ref ln, .int md, .int mt, .int mr, .int mg, .ref mat, .ref mfd, .ref mhd]))])) () hx hb hr hlocks rfl hQ hK hP hD hS ⟨by decide, by decide⟩ dX1_isGone_16 (show ((1 : Int) = 0 ∨ (1 : Int) = 1) by omega)

set_option maxHeartbeats 600000 in
set_option maxRecDepth 100000 in
theorem c_X1_to (l : Launch) (D : va_G) (cI cZ cM : ClassId) (h0 : Nat) (n : Int32) (ln : Nat) (md : Int32) (mt : Int32) (mr : Int32) (mg : Int32) (mat : Nat) (mfd : Nat) (mhd : Nat) (lpe : Int32) (ltk : Int32) (lho : Nat) (lli : Nat) (lki : Nat) (lfd : Nat) (lfr : Nat) (lto : Nat) (lse : Nat) (lhl : Nat) (lFto : Nat → Int32) (lFfr : Nat → Int32) (sz : Nat) (h_n : 0 ≤ n.toInt ∧ n.toInt ≤ 6) : Ci l yX1_to wsX1_to ({ frames := 1, cells := 0, slots := 0, locals := 21 } : Room) D cI cZ cM [.ref h0, .int n] [(h0, .inr (1, [.ref ln, .int md, .int mt, .int mr, .int mg, .ref mat, .ref mfd, .ref mhd])), (ln, .inr (0, [.int lpe, .int ltk, .ref lho, .ref lli, .ref lki, .ref lfd, .ref lfr, .ref lto, .ref lse, .ref lhl])), (lto, .inl (cI, 7, .inl lFto)), (lfr, .inl (cI, 7, .inl lFfr))] sz (fun (r : Int32) (u : Unit) => True) (fun u => [(h0, .inr (1, [.ref ln, .int md, .int mt, .int mr, .int mg, .ref mat, .ref mfd, .ref mhd])), (ln, .inr (0, [.int lpe, .int ltk, .ref lho, .ref lli, .ref lki, .ref lfd, .ref lfr, .ref lto, .ref lse, .ref lhl])), (lto, .inl (cI, 7, .inl lFto)), (lfr, .inl (cI, 7, .inl lFfr))]) 0 0 := by
  refine begins (l := l) (y := yX1_to) (ws := wsX1_to) (av := [.ref h0, .int n]) (Qc := fun A => va_Qi (fun (r : Int32) (u : Unit) => True) (fun u => Wd D cI cZ cM A ((fun u => [(h0, .inr (1, [.ref ln, .int md, .int mt, .int mr, .int mg, .ref mat, .ref mfd, .ref mhd])), (ln, .inr (0, [.int lpe, .int ltk, .ref lho, .ref lli, .ref lki, .ref lfd, .ref lfr, .ref lto, .ref lse, .ref lhl])), (lto, .inl (cI, 7, .inl lFto)), (lfr, .inl (cI, 7, .inl lFfr))]) u)) A) cX1_to 2 (some .int) (by decide) rfl (Nat.le_of_ble_eq_true rfl) ?_
  intro p e s m args below meth c R Q A ls hBd hR hQ hA hS hK hP hD hl
  obtain ⟨hx, hb, hr, hts, hown, hlocks, hin, hml⟩ := hBd
  have hl : lv_has ls 2 [(0, .ref h0), (1, .int n)] := hl
  have iX1 : ∀ w ∈ wsX10, w ∈ wsX1_to := fun _ h => List.mem_cons_of_mem _ (List.mem_append_left _ (List.mem_append_right _ h))
  have iX0 : ∀ w ∈ wsX00, w ∈ wsX1_to := fun _ h => List.mem_cons_of_mem _ (List.mem_append_right _ h)
  obtain ⟨h_na, h_nb⟩ := h_n
  refine lv_aload_n hx hb dX1_to_0 rfl (lv_at hl 0 rfl) ?_
  refine lv_iload_n hx hb dX1_to_1 rfl (lv_at hl 1 rfl) ?_
  refine cV_i (As := [.int n]) (rest := []) ⟨hx, hb, hml, hown, hts⟩ (c_X1_isReturn l D cI cZ cM h0 n ln md mt mr mg mat mfd mhd _ ) (cwV 1 hts gX1_to_X1_isReturn rfl rfl rfl (by decide +kernel) ⟨by rw [hR]; decide, by rw [hR]; decide⟩) hK hP hD hS hA [0] [1, 2, 3] rfl rfl (by decide) (by decide) (by decide) rfl 0 rfl hl.1 rfl rfl (Nat.le_of_ble_eq_true rfl) dX1_to_2 ⟨by rw [hR]; decide, by rw [hR]; decide⟩ (fun r_1 u_2 H locs hw hP hD hS => ?_)
  have hP : va_P D vwCl [(h0, .inr (1, [.ref ln, .int md, .int mt, .int mr, .int mg, .ref mat, .ref mfd, .ref mhd])), (ln, .inr (0, [.int lpe, .int ltk, .ref lho, .ref lli, .ref lki, .ref lfd, .ref lfr, .ref lto, .ref lse, .ref lhl])), (lto, .inl (cI, 7, .inl lFto)), (lfr, .inl (cI, 7, .inl lFfr))] H := hP.sub [3, 0, 1, 2] rfl
  have hD : va_D A [(h0, .inr (1, [.ref ln, .int md, .int mt, .int mr, .int mg, .ref mat, .ref mfd, .ref mhd])), (ln, .inr (0, [.int lpe, .int ltk, .ref lho, .ref lli, .ref lki, .ref lfd, .ref lfr, .ref lto, .ref lse, .ref lhl])), (lto, .inl (cI, 7, .inl lFto)), (lfr, .inl (cI, 7, .inl lFfr))] := hD.sub [3, 0, 1, 2] (by decide) rfl
  refine W.widen (k := 0) (n := 0) (Nat.le_refl _) (Nat.le_refl _) ?_
  have hw : (r_1.toInt = 0 ∨ r_1.toInt = 1) := hw
  have hw_3 := hw
  refine lv_if_eq (tgt := 20) hx hb dX1_to_5 (by decide) (fun c_4 => ?_) (fun c_4 => ?_)
  · have tc_4 := b_eq rfl (show (0 : Int32).toInt = 0 by decide) c_4
    refine lv_aload_n hx hb dX1_to_20 rfl (lv_at hl 0 rfl) ?_
    refine va_get (D := D) (ci := 1) (v := .ref ln) (C := RX1) (T := TX1) (N := 8) hx hb hts iX1 hown hK hP 0 rfl rfl 0 (by decide) (hts (.fieldLink RX1 34 "PunchedTicket$Moment" "line" "LPunchedTicket$Line;") (List.mem_of_getElem? (i := 1) rfl)) (fun _ h9 => h9) rfl dX1_to_21 ?_
    refine va_get (D := D) (ci := 0) (v := .ref lto) (C := RX0) (T := TX0) (N := 10) hx hb hts iX0 hown hK hP 1 rfl rfl 7 (by decide) (hts (.fieldLink RX1 56 "PunchedTicket$Line" "to" "[I") (List.mem_of_getElem? (i := 3) rfl)) (fun _ h9 => h9) rfl dX1_to_24 ?_
    refine lv_iload_n hx hb dX1_to_27 rfl (lv_at hl 1 rfl) ?_
    refine va_iald hx hb hK hP 2 0 rfl rfl (vp_in_iff.mpr ⟨by omega, by omega⟩) dX1_to_28 ?_
    refine lv_topi (fun v_5 ev_5 => ?_)
    exact ret_i (post := (fun (r : Int32) (u : Unit) => True)) (W1 := (fun u => [(h0, .inr (1, [.ref ln, .int md, .int mt, .int mr, .int mg, .ref mat, .ref mfd, .ref mhd])), (ln, .inr (0, [.int lpe, .int ltk, .ref lho, .ref lli, .ref lki, .ref lfd, .ref lfr, .ref lto, .ref lse, .ref lhl])), (lto, .inl (cI, 7, .inl lFto)), (lfr, .inl (cI, 7, .inl lFfr))])) () hx hb hr hlocks rfl hQ hK hP hD hS ⟨by decide, by decide⟩ dX1_to_29 trivial
  · have tc_4 := b_ne rfl (show (0 : Int32).toInt = 0 by decide) c_4
    refine lv_aload_n hx hb dX1_to_8 rfl (lv_at hl 0 rfl) ?_
    refine va_get (D := D) (ci := 1) (v := .ref ln) (C := RX1) (T := TX1) (N := 8) hx hb hts iX1 hown hK hP 0 rfl rfl 0 (by decide) (hts (.fieldLink RX1 34 "PunchedTicket$Moment" "line" "LPunchedTicket$Line;") (List.mem_of_getElem? (i := 1) rfl)) (fun _ h9 => h9) rfl dX1_to_9 ?_
    refine va_get (D := D) (ci := 0) (v := .ref lfr) (C := RX0) (T := TX0) (N := 10) hx hb hts iX0 hown hK hP 1 rfl rfl 6 (by decide) (hts (.fieldLink RX1 59 "PunchedTicket$Line" "from" "[I") (List.mem_of_getElem? (i := 2) rfl)) (fun _ h9 => h9) rfl dX1_to_12 ?_
    refine lv_iload_n hx hb dX1_to_15 rfl (lv_at hl 1 rfl) ?_
    refine va_iald hx hb hK hP 3 0 rfl rfl (vp_in_iff.mpr ⟨by omega, by omega⟩) dX1_to_16 ?_
    refine lv_topi (fun v_6 ev_6 => ?_)
    refine lv_goto (tgt := 29) hx hb dX1_to_17 (by decide) ?_
    exact ret_i (post := (fun (r : Int32) (u : Unit) => True)) (W1 := (fun u => [(h0, .inr (1, [.ref ln, .int md, .int mt, .int mr, .int mg, .ref mat, .ref mfd, .ref mhd])), (ln, .inr (0, [.int lpe, .int ltk, .ref lho, .ref lli, .ref lki, .ref lfd, .ref lfr, .ref lto, .ref lse, .ref lhl])), (lto, .inl (cI, 7, .inl lFto)), (lfr, .inl (cI, 7, .inl lFfr))])) () hx hb hr hlocks rfl hQ hK hP hD hS ⟨by decide, by decide⟩ dX1_to_29 trivial

set_option maxHeartbeats 600000 in
set_option maxRecDepth 100000 in
theorem c_X1_canTake (l : Launch) (D : va_G) (cI cZ cM : ClassId) (h0 : Nat) (n : Int32) (k : Int32) (ln : Nat) (md : Int32) (mt : Int32) (mr : Int32) (mg : Int32) (mat : Nat) (mfd : Nat) (mhd : Nat) (lpe : Int32) (ltk : Int32) (lho : Nat) (lli : Nat) (lki : Nat) (lfd : Nat) (lfr : Nat) (lto : Nat) (lse : Nat) (lhl : Nat) (lFto : Nat → Int32) (lFfr : Nat → Int32) (lFki : Nat → Int32) (mFat : Nat → Int32) (sz : Nat) (h_n : 0 ≤ n.toInt ∧ n.toInt ≤ 6) (h_k : 0 ≤ k.toInt ∧ k.toInt ≤ 4) : Ci l yX1_canTake wsX1_canTake ({ frames := 0, cells := 0, slots := 0, locals := 0 } : Room) D cI cZ cM [.ref h0, .int n, .int k] [(h0, .inr (1, [.ref ln, .int md, .int mt, .int mr, .int mg, .ref mat, .ref mfd, .ref mhd])), (ln, .inr (0, [.int lpe, .int ltk, .ref lho, .ref lli, .ref lki, .ref lfd, .ref lfr, .ref lto, .ref lse, .ref lhl])), (lto, .inl (cI, 7, .inl lFto)), (lfr, .inl (cI, 7, .inl lFfr)), (lki, .inl (cI, 5, .inl lFki)), (mat, .inl (cI, 5, .inl mFat))] sz (fun (r : Int32) (u : Unit) => (r.toInt = 0 ∨ r.toInt = 1)) (fun u => [(h0, .inr (1, [.ref ln, .int md, .int mt, .int mr, .int mg, .ref mat, .ref mfd, .ref mhd])), (ln, .inr (0, [.int lpe, .int ltk, .ref lho, .ref lli, .ref lki, .ref lfd, .ref lfr, .ref lto, .ref lse, .ref lhl])), (lto, .inl (cI, 7, .inl lFto)), (lfr, .inl (cI, 7, .inl lFfr)), (lki, .inl (cI, 5, .inl lFki)), (mat, .inl (cI, 5, .inl mFat))]) 0 0 := by
  refine begins (l := l) (y := yX1_canTake) (ws := wsX1_canTake) (av := [.ref h0, .int n, .int k]) (Qc := fun A => va_Qi (fun (r : Int32) (u : Unit) => (r.toInt = 0 ∨ r.toInt = 1)) (fun u => Wd D cI cZ cM A ((fun u => [(h0, .inr (1, [.ref ln, .int md, .int mt, .int mr, .int mg, .ref mat, .ref mfd, .ref mhd])), (ln, .inr (0, [.int lpe, .int ltk, .ref lho, .ref lli, .ref lki, .ref lfd, .ref lfr, .ref lto, .ref lse, .ref lhl])), (lto, .inl (cI, 7, .inl lFto)), (lfr, .inl (cI, 7, .inl lFfr)), (lki, .inl (cI, 5, .inl lFki)), (mat, .inl (cI, 5, .inl mFat))]) u)) A) cX1_canTake 5 (some .boolean) (by decide) rfl (Nat.le_of_ble_eq_true rfl) ?_
  intro p e s m args below meth c R Q A ls hBd hR hQ hA hS hK hP hD hl
  obtain ⟨hx, hb, hr, hts, hown, hlocks, hin, hml⟩ := hBd
  have hl : lv_has ls 5 [(0, .ref h0), (1, .int n), (2, .int k)] := hl
  have iX1 : ∀ w ∈ wsX10, w ∈ wsX1_canTake := fun _ h => List.mem_cons_of_mem _ (List.mem_append_left _ (List.mem_append_right _ h))
  have iX0 : ∀ w ∈ wsX00, w ∈ wsX1_canTake := fun _ h => List.mem_cons_of_mem _ (List.mem_append_right _ h)
  obtain ⟨h_na, h_nb⟩ := h_n
  obtain ⟨h_ka, h_kb⟩ := h_k
  refine lv_iconst (v := 1) hx hb dX1_canTake_0 (by decide) ?_
  refine lv_iload_n hx hb dX1_canTake_1 rfl (lv_at hl 1 rfl) ?_
  refine lv_ishl hx hb dX1_canTake_2 ?_
  refine lv_topi (fun v_1 ev_1 => ?_)
  refine lv_istore_n (lv' := [(3, .int v_1), (0, .ref h0), (1, .int n), (2, .int k)]) hx hb dX1_canTake_3 rfl hl (by decide) rfl (fun ls hl => ?_)
  refine lv_aload_n hx hb dX1_canTake_4 rfl (lv_at hl 1 rfl) ?_
  refine va_get (D := D) (ci := 1) (v := .int mr) (C := RX1) (T := TX1) (N := 8) hx hb hts iX1 hown hK hP 0 rfl rfl 3 (by decide) (hts (.fieldLink RX1 18 "PunchedTicket$Moment" "returns" "I") (List.mem_of_getElem? (i := 1) rfl)) (fun _ h9 => h9) rfl dX1_canTake_5 ?_
  refine lv_iload_n hx hb dX1_canTake_8 rfl (lv_at hl 0 rfl) ?_
  refine lv_iand hx hb dX1_canTake_9 ?_
  refine lv_topi (fun v_2 ev_2 => ?_)
  refine lv_if_eq (tgt := 25) hx hb dX1_canTake_10 (by decide) (fun c_3 => ?_) (fun c_3 => ?_)
  · have tc_3 := b_eq rfl (show (0 : Int32).toInt = 0 by decide) c_3
    refine lv_aload_n hx hb dX1_canTake_25 rfl (lv_at hl 1 rfl) ?_
    refine va_get (D := D) (ci := 1) (v := .ref ln) (C := RX1) (T := TX1) (N := 8) hx hb hts iX1 hown hK hP 0 rfl rfl 0 (by decide) (hts (.fieldLink RX1 34 "PunchedTicket$Moment" "line" "LPunchedTicket$Line;") (List.mem_of_getElem? (i := 2) rfl)) (fun _ h9 => h9) rfl dX1_canTake_26 ?_
    refine va_get (D := D) (ci := 0) (v := .ref lfr) (C := RX0) (T := TX0) (N := 10) hx hb hts iX0 hown hK hP 1 rfl rfl 6 (by decide) (hts (.fieldLink RX1 59 "PunchedTicket$Line" "from" "[I") (List.mem_of_getElem? (i := 4) rfl)) (fun _ h9 => h9) rfl dX1_canTake_29 ?_
    refine lv_iload_n hx hb dX1_canTake_32 rfl (lv_at hl 2 rfl) ?_
    refine va_iald hx hb hK hP 3 0 rfl rfl (vp_in_iff.mpr ⟨by omega, by omega⟩) dX1_canTake_33 ?_
    refine lv_topi (fun v_4 ev_4 => ?_)
    refine lv_istore (lv' := [(4, .int v_4), (3, .int v_1), (0, .ref h0), (1, .int n), (2, .int k)]) hx hb dX1_canTake_34 hl (by decide) rfl (fun ls hl => ?_)
    refine lv_aload_n hx hb dX1_canTake_36 rfl (lv_at hl 2 rfl) ?_
    refine va_get (D := D) (ci := 1) (v := .int mg) (C := RX1) (T := TX1) (N := 8) hx hb hts iX1 hown hK hP 0 rfl rfl 4 (by decide) (hts (.fieldLink RX1 21 "PunchedTicket$Moment" "gone" "I") (List.mem_of_getElem? (i := 5) rfl)) (fun _ h9 => h9) rfl dX1_canTake_37 ?_
    refine lv_iload_n hx hb dX1_canTake_40 rfl (lv_at hl 1 rfl) ?_
    refine lv_iand hx hb dX1_canTake_41 ?_
    refine lv_topi (fun v_5 ev_5 => ?_)
    refine lv_if_ne (tgt := 73) hx hb dX1_canTake_42 (by decide) (fun c_6 => ?_) (fun c_6 => ?_)
    · have tc_6 := b_ne rfl (show (0 : Int32).toInt = 0 by decide) c_6
      refine lv_iconst (v := 0) hx hb dX1_canTake_73 (by decide) ?_
      exact ret_i (post := (fun (r : Int32) (u : Unit) => (r.toInt = 0 ∨ r.toInt = 1))) (W1 := (fun u => [(h0, .inr (1, [.ref ln, .int md, .int mt, .int mr, .int mg, .ref mat, .ref mfd, .ref mhd])), (ln, .inr (0, [.int lpe, .int ltk, .ref lho, .ref lli, .ref lki, .ref lfd, .ref lfr, .ref lto, .ref lse, .ref lhl])), (lto, .inl (cI, 7, .inl lFto)), (lfr, .inl (cI, 7, .inl lFfr)), (lki, .inl (cI, 5, .inl lFki)), (mat, .inl (cI, 5, .inl mFat))])) () hx hb hr hlocks rfl hQ hK hP hD hS ⟨by decide, by decide⟩ dX1_canTake_74 (show ((0 : Int) = 0 ∨ (0 : Int) = 1) by omega)
    · have tc_6 := b_eq rfl (show (0 : Int32).toInt = 0 by decide) c_6
      refine lv_aload_n hx hb dX1_canTake_45 rfl (lv_at hl 2 rfl) ?_
      refine va_get (D := D) (ci := 1) (v := .ref ln) (C := RX1) (T := TX1) (N := 8) hx hb hts iX1 hown hK hP 0 rfl rfl 0 (by decide) (hts (.fieldLink RX1 34 "PunchedTicket$Moment" "line" "LPunchedTicket$Line;") (List.mem_of_getElem? (i := 2) rfl)) (fun _ h9 => h9) rfl dX1_canTake_46 ?_
      refine va_get (D := D) (ci := 0) (v := .ref lki) (C := RX0) (T := TX0) (N := 10) hx hb hts iX0 hown hK hP 1 rfl rfl 4 (by decide) (hts (.fieldLink RX1 78 "PunchedTicket$Line" "kind" "[I") (List.mem_of_getElem? (i := 6) rfl)) (fun _ h9 => h9) rfl dX1_canTake_49 ?_
      refine lv_iload_n hx hb dX1_canTake_52 rfl (lv_at hl 4 rfl) ?_
      refine va_iald hx hb hK hP 4 0 rfl rfl (vp_in_iff.mpr ⟨by omega, by omega⟩) dX1_canTake_53 ?_
      refine lv_topi (fun v_7 ev_7 => ?_)
      refine lv_iconst (v := 3) hx hb dX1_canTake_54 (by decide) ?_
      refine lv_icmp_eq (tgt := 73) hx hb dX1_canTake_55 (by decide) (fun c_8 => ?_) (fun c_8 => ?_)
      · have tc_8 := b_eq rfl (show (3 : Int32).toInt = 3 by decide) c_8
        refine lv_iconst (v := 0) hx hb dX1_canTake_73 (by decide) ?_
        exact ret_i (post := (fun (r : Int32) (u : Unit) => (r.toInt = 0 ∨ r.toInt = 1))) (W1 := (fun u => [(h0, .inr (1, [.ref ln, .int md, .int mt, .int mr, .int mg, .ref mat, .ref mfd, .ref mhd])), (ln, .inr (0, [.int lpe, .int ltk, .ref lho, .ref lli, .ref lki, .ref lfd, .ref lfr, .ref lto, .ref lse, .ref lhl])), (lto, .inl (cI, 7, .inl lFto)), (lfr, .inl (cI, 7, .inl lFfr)), (lki, .inl (cI, 5, .inl lFki)), (mat, .inl (cI, 5, .inl mFat))])) () hx hb hr hlocks rfl hQ hK hP hD hS ⟨by decide, by decide⟩ dX1_canTake_74 (show ((0 : Int) = 0 ∨ (0 : Int) = 1) by omega)
      · have tc_8 := b_ne rfl (show (3 : Int32).toInt = 3 by decide) c_8
        refine lv_iload hx hb dX1_canTake_58 (lv_at hl 0 rfl) ?_
        refine lv_aload_n hx hb dX1_canTake_60 rfl (lv_at hl 2 rfl) ?_
        refine va_get (D := D) (ci := 1) (v := .ref mat) (C := RX1) (T := TX1) (N := 8) hx hb hts iX1 hown hK hP 0 rfl rfl 5 (by decide) (hts (.fieldLink RX1 24 "PunchedTicket$Moment" "at" "[I") (List.mem_of_getElem? (i := 7) rfl)) (fun _ h9 => h9) rfl dX1_canTake_61 ?_
        refine lv_iload_n hx hb dX1_canTake_64 rfl (lv_at hl 4 rfl) ?_
        refine va_iald hx hb hK hP 5 0 rfl rfl (vp_in_iff.mpr ⟨by omega, by omega⟩) dX1_canTake_65 ?_
        refine lv_topi (fun v_9 ev_9 => ?_)
        refine lv_icmp_ne (tgt := 73) hx hb dX1_canTake_66 (by decide) (fun c_10 => ?_) (fun c_10 => ?_)
        · have tc_10 := b_ne rfl rfl c_10
          refine lv_iconst (v := 0) hx hb dX1_canTake_73 (by decide) ?_
          exact ret_i (post := (fun (r : Int32) (u : Unit) => (r.toInt = 0 ∨ r.toInt = 1))) (W1 := (fun u => [(h0, .inr (1, [.ref ln, .int md, .int mt, .int mr, .int mg, .ref mat, .ref mfd, .ref mhd])), (ln, .inr (0, [.int lpe, .int ltk, .ref lho, .ref lli, .ref lki, .ref lfd, .ref lfr, .ref lto, .ref lse, .ref lhl])), (lto, .inl (cI, 7, .inl lFto)), (lfr, .inl (cI, 7, .inl lFfr)), (lki, .inl (cI, 5, .inl lFki)), (mat, .inl (cI, 5, .inl mFat))])) () hx hb hr hlocks rfl hQ hK hP hD hS ⟨by decide, by decide⟩ dX1_canTake_74 (show ((0 : Int) = 0 ∨ (0 : Int) = 1) by omega)
        · have tc_10 := b_eq rfl rfl c_10
          refine lv_iconst (v := 1) hx hb dX1_canTake_69 (by decide) ?_
          refine lv_goto (tgt := 74) hx hb dX1_canTake_70 (by decide) ?_
          exact ret_i (post := (fun (r : Int32) (u : Unit) => (r.toInt = 0 ∨ r.toInt = 1))) (W1 := (fun u => [(h0, .inr (1, [.ref ln, .int md, .int mt, .int mr, .int mg, .ref mat, .ref mfd, .ref mhd])), (ln, .inr (0, [.int lpe, .int ltk, .ref lho, .ref lli, .ref lki, .ref lfd, .ref lfr, .ref lto, .ref lse, .ref lhl])), (lto, .inl (cI, 7, .inl lFto)), (lfr, .inl (cI, 7, .inl lFfr)), (lki, .inl (cI, 5, .inl lFki)), (mat, .inl (cI, 5, .inl mFat))])) () hx hb hr hlocks rfl hQ hK hP hD hS ⟨by decide, by decide⟩ dX1_canTake_74 (show ((1 : Int) = 0 ∨ (1 : Int) = 1) by omega)
  · have tc_3 := b_ne rfl (show (0 : Int32).toInt = 0 by decide) c_3
    refine lv_aload_n hx hb dX1_canTake_13 rfl (lv_at hl 1 rfl) ?_
    refine va_get (D := D) (ci := 1) (v := .ref ln) (C := RX1) (T := TX1) (N := 8) hx hb hts iX1 hown hK hP 0 rfl rfl 0 (by decide) (hts (.fieldLink RX1 34 "PunchedTicket$Moment" "line" "LPunchedTicket$Line;") (List.mem_of_getElem? (i := 2) rfl)) (fun _ h9 => h9) rfl dX1_canTake_14 ?_
    refine va_get (D := D) (ci := 0) (v := .ref lto) (C := RX0) (T := TX0) (N := 10) hx hb hts iX0 hown hK hP 1 rfl rfl 7 (by decide) (hts (.fieldLink RX1 56 "PunchedTicket$Line" "to" "[I") (List.mem_of_getElem? (i := 3) rfl)) (fun _ h9 => h9) rfl dX1_canTake_17 ?_
    refine lv_iload_n hx hb dX1_canTake_20 rfl (lv_at hl 2 rfl) ?_
    refine va_iald hx hb hK hP 2 0 rfl rfl (vp_in_iff.mpr ⟨by omega, by omega⟩) dX1_canTake_21 ?_
    refine lv_topi (fun v_11 ev_11 => ?_)
    refine lv_goto (tgt := 34) hx hb dX1_canTake_22 (by decide) ?_
    refine lv_istore (lv' := [(4, .int v_11), (3, .int v_1), (0, .ref h0), (1, .int n), (2, .int k)]) hx hb dX1_canTake_34 hl (by decide) rfl (fun ls hl => ?_)
    refine lv_aload_n hx hb dX1_canTake_36 rfl (lv_at hl 2 rfl) ?_
    refine va_get (D := D) (ci := 1) (v := .int mg) (C := RX1) (T := TX1) (N := 8) hx hb hts iX1 hown hK hP 0 rfl rfl 4 (by decide) (hts (.fieldLink RX1 21 "PunchedTicket$Moment" "gone" "I") (List.mem_of_getElem? (i := 5) rfl)) (fun _ h9 => h9) rfl dX1_canTake_37 ?_
    refine lv_iload_n hx hb dX1_canTake_40 rfl (lv_at hl 1 rfl) ?_
    refine lv_iand hx hb dX1_canTake_41 ?_
    refine lv_topi (fun v_12 ev_12 => ?_)
    refine lv_if_ne (tgt := 73) hx hb dX1_canTake_42 (by decide) (fun c_13 => ?_) (fun c_13 => ?_)
    · have tc_13 := b_ne rfl (show (0 : Int32).toInt = 0 by decide) c_13
      refine lv_iconst (v := 0) hx hb dX1_canTake_73 (by decide) ?_
      exact ret_i (post := (fun (r : Int32) (u : Unit) => (r.toInt = 0 ∨ r.toInt = 1))) (W1 := (fun u => [(h0, .inr (1, [.ref ln, .int md, .int mt, .int mr, .int mg, .ref mat, .ref mfd, .ref mhd])), (ln, .inr (0, [.int lpe, .int ltk, .ref lho, .ref lli, .ref lki, .ref lfd, .ref lfr, .ref lto, .ref lse, .ref lhl])), (lto, .inl (cI, 7, .inl lFto)), (lfr, .inl (cI, 7, .inl lFfr)), (lki, .inl (cI, 5, .inl lFki)), (mat, .inl (cI, 5, .inl mFat))])) () hx hb hr hlocks rfl hQ hK hP hD hS ⟨by decide, by decide⟩ dX1_canTake_74 (show ((0 : Int) = 0 ∨ (0 : Int) = 1) by omega)
    · have tc_13 := b_eq rfl (show (0 : Int32).toInt = 0 by decide) c_13
      refine lv_aload_n hx hb dX1_canTake_45 rfl (lv_at hl 2 rfl) ?_
      refine va_get (D := D) (ci := 1) (v := .ref ln) (C := RX1) (T := TX1) (N := 8) hx hb hts iX1 hown hK hP 0 rfl rfl 0 (by decide) (hts (.fieldLink RX1 34 "PunchedTicket$Moment" "line" "LPunchedTicket$Line;") (List.mem_of_getElem? (i := 2) rfl)) (fun _ h9 => h9) rfl dX1_canTake_46 ?_
      refine va_get (D := D) (ci := 0) (v := .ref lki) (C := RX0) (T := TX0) (N := 10) hx hb hts iX0 hown hK hP 1 rfl rfl 4 (by decide) (hts (.fieldLink RX1 78 "PunchedTicket$Line" "kind" "[I") (List.mem_of_getElem? (i := 6) rfl)) (fun _ h9 => h9) rfl dX1_canTake_49 ?_
      refine lv_iload_n hx hb dX1_canTake_52 rfl (lv_at hl 4 rfl) ?_
      refine va_iald hx hb hK hP 4 0 rfl rfl (vp_in_iff.mpr ⟨by omega, by omega⟩) dX1_canTake_53 ?_
      refine lv_topi (fun v_14 ev_14 => ?_)
      refine lv_iconst (v := 3) hx hb dX1_canTake_54 (by decide) ?_
      refine lv_icmp_eq (tgt := 73) hx hb dX1_canTake_55 (by decide) (fun c_15 => ?_) (fun c_15 => ?_)
      · have tc_15 := b_eq rfl (show (3 : Int32).toInt = 3 by decide) c_15
        refine lv_iconst (v := 0) hx hb dX1_canTake_73 (by decide) ?_
        exact ret_i (post := (fun (r : Int32) (u : Unit) => (r.toInt = 0 ∨ r.toInt = 1))) (W1 := (fun u => [(h0, .inr (1, [.ref ln, .int md, .int mt, .int mr, .int mg, .ref mat, .ref mfd, .ref mhd])), (ln, .inr (0, [.int lpe, .int ltk, .ref lho, .ref lli, .ref lki, .ref lfd, .ref lfr, .ref lto, .ref lse, .ref lhl])), (lto, .inl (cI, 7, .inl lFto)), (lfr, .inl (cI, 7, .inl lFfr)), (lki, .inl (cI, 5, .inl lFki)), (mat, .inl (cI, 5, .inl mFat))])) () hx hb hr hlocks rfl hQ hK hP hD hS ⟨by decide, by decide⟩ dX1_canTake_74 (show ((0 : Int) = 0 ∨ (0 : Int) = 1) by omega)
      · have tc_15 := b_ne rfl (show (3 : Int32).toInt = 3 by decide) c_15
        refine lv_iload hx hb dX1_canTake_58 (lv_at hl 0 rfl) ?_
        refine lv_aload_n hx hb dX1_canTake_60 rfl (lv_at hl 2 rfl) ?_
        refine va_get (D := D) (ci := 1) (v := .ref mat) (C := RX1) (T := TX1) (N := 8) hx hb hts iX1 hown hK hP 0 rfl rfl 5 (by decide) (hts (.fieldLink RX1 24 "PunchedTicket$Moment" "at" "[I") (List.mem_of_getElem? (i := 7) rfl)) (fun _ h9 => h9) rfl dX1_canTake_61 ?_
        refine lv_iload_n hx hb dX1_canTake_64 rfl (lv_at hl 4 rfl) ?_
        refine va_iald hx hb hK hP 5 0 rfl rfl (vp_in_iff.mpr ⟨by omega, by omega⟩) dX1_canTake_65 ?_
        refine lv_topi (fun v_16 ev_16 => ?_)
        refine lv_icmp_ne (tgt := 73) hx hb dX1_canTake_66 (by decide) (fun c_17 => ?_) (fun c_17 => ?_)
        · have tc_17 := b_ne rfl rfl c_17
          refine lv_iconst (v := 0) hx hb dX1_canTake_73 (by decide) ?_
          exact ret_i (post := (fun (r : Int32) (u : Unit) => (r.toInt = 0 ∨ r.toInt = 1))) (W1 := (fun u => [(h0, .inr (1, [.ref ln, .int md, .int mt, .int mr, .int mg, .ref mat, .ref mfd, .ref mhd])), (ln, .inr (0, [.int lpe, .int ltk, .ref lho, .ref lli, .ref lki, .ref lfd, .ref lfr, .ref lto, .ref lse, .ref lhl])), (lto, .inl (cI, 7, .inl lFto)), (lfr, .inl (cI, 7, .inl lFfr)), (lki, .inl (cI, 5, .inl lFki)), (mat, .inl (cI, 5, .inl mFat))])) () hx hb hr hlocks rfl hQ hK hP hD hS ⟨by decide, by decide⟩ dX1_canTake_74 (show ((0 : Int) = 0 ∨ (0 : Int) = 1) by omega)
        · have tc_17 := b_eq rfl rfl c_17
          refine lv_iconst (v := 1) hx hb dX1_canTake_69 (by decide) ?_
          refine lv_goto (tgt := 74) hx hb dX1_canTake_70 (by decide) ?_
          exact ret_i (post := (fun (r : Int32) (u : Unit) => (r.toInt = 0 ∨ r.toInt = 1))) (W1 := (fun u => [(h0, .inr (1, [.ref ln, .int md, .int mt, .int mr, .int mg, .ref mat, .ref mfd, .ref mhd])), (ln, .inr (0, [.int lpe, .int ltk, .ref lho, .ref lli, .ref lki, .ref lfd, .ref lfr, .ref lto, .ref lse, .ref lhl])), (lto, .inl (cI, 7, .inl lFto)), (lfr, .inl (cI, 7, .inl lFfr)), (lki, .inl (cI, 5, .inl lFki)), (mat, .inl (cI, 5, .inl mFat))])) () hx hb hr hlocks rfl hQ hK hP hD hS ⟨by decide, by decide⟩ dX1_canTake_74 (show ((1 : Int) = 0 ∨ (1 : Int) = 1) by omega)

set_option maxHeartbeats 600000 in
set_option maxRecDepth 100000 in
theorem c_X1_copy (l : Launch) (D : va_G) (cI cZ cM : ClassId) (h0 : Nat) (h1 : Nat) (ln : Nat) (md : Int32) (mt : Int32) (mr : Int32) (mg : Int32) (mat : Nat) (mfd : Nat) (mhd : Nat) (ql : Nat) (qd : Int32) (qt : Int32) (qr : Int32) (qg : Int32) (qat : Nat) (qfd : Nat) (qhd : Nat) (mFat : Nat → Int32) (mFfd : Nat → Int32) (mFhd : Nat → Int32) (qFat : Nat → Int32) (qFfd : Nat → Int32) (qFhd : Nat → Int32) (sz : Nat)  : Cv l yX1_copy wsX1_copy ({ frames := 1, cells := 0, slots := 0, locals := 26 } : Room) D cI cZ cM [.ref h0, .ref h1] [(h0, .inr (1, [.ref ln, .int md, .int mt, .int mr, .int mg, .ref mat, .ref mfd, .ref mhd])), (h1, .inr (1, [.ref ql, .int qd, .int qt, .int qr, .int qg, .ref qat, .ref qfd, .ref qhd])), (mat, .inl (cI, 5, .inl mFat)), (mfd, .inl (cI, 7, .inl mFfd)), (mhd, .inl (cI, 7, .inl mFhd)), (qat, .inl (cI, 5, .inl qFat)), (qfd, .inl (cI, 7, .inl qFfd)), (qhd, .inl (cI, 7, .inl qFhd))] sz (fun (u : (Nat → Int32) × (Nat → Int32) × (Nat → Int32)) => True) (fun u => [(h0, .inr (1, [.ref ln, .int qd, .int qt, .int qr, .int qg, .ref mat, .ref mfd, .ref mhd])), (h1, .inr (1, [.ref ql, .int qd, .int qt, .int qr, .int qg, .ref qat, .ref qfd, .ref qhd])), (mat, .inl (cI, 5, .inl u.1)), (mfd, .inl (cI, 7, .inl u.2.1)), (mhd, .inl (cI, 7, .inl u.2.2)), (qat, .inl (cI, 5, .inl qFat)), (qfd, .inl (cI, 7, .inl qFfd)), (qhd, .inl (cI, 7, .inl qFhd))]) 0 0 := by
  refine begins (l := l) (y := yX1_copy) (ws := wsX1_copy) (av := [.ref h0, .ref h1]) (Qc := fun A => va_Qv (fun (u : (Nat → Int32) × (Nat → Int32) × (Nat → Int32)) => True) (fun u => Wd D cI cZ cM A ((fun u => [(h0, .inr (1, [.ref ln, .int qd, .int qt, .int qr, .int qg, .ref mat, .ref mfd, .ref mhd])), (h1, .inr (1, [.ref ql, .int qd, .int qt, .int qr, .int qg, .ref qat, .ref qfd, .ref qhd])), (mat, .inl (cI, 5, .inl u.1)), (mfd, .inl (cI, 7, .inl u.2.1)), (mhd, .inl (cI, 7, .inl u.2.2)), (qat, .inl (cI, 5, .inl qFat)), (qfd, .inl (cI, 7, .inl qFfd)), (qhd, .inl (cI, 7, .inl qFhd))]) u)) A) cX1_copy 2 none (by decide) rfl (Nat.le_of_ble_eq_true rfl) ?_
  intro p e s m args below meth c R Q A ls hBd hR hQ hA hS hK hP hD hl
  obtain ⟨hx, hb, hr, hts, hown, hlocks, hin, hml⟩ := hBd
  have hl : lv_has ls 2 [(0, .ref h0), (1, .ref h1)] := hl
  have iX1 : ∀ w ∈ wsX10, w ∈ wsX1_copy := fun _ h => List.mem_cons_of_mem _ (List.mem_append_right _ h)
  refine lv_aload_n hx hb dX1_copy_0 rfl (lv_at hl 0 rfl) ?_
  refine lv_aload_n hx hb dX1_copy_1 rfl (lv_at hl 1 rfl) ?_
  refine va_get (D := D) (ci := 1) (v := .int qd) (C := RX1) (T := TX1) (N := 8) hx hb hts iX1 hown hK hP 1 rfl rfl 1 (by decide) (hts (.fieldLink RX1 9 "PunchedTicket$Moment" "day" "I") (List.mem_of_getElem? (i := 1) rfl)) (fun _ h9 => h9) rfl dX1_copy_2 ?_
  refine va_put (D := D) (ci := 1) (v := .int qd) (ty := .int) (C := RX1) (T := TX1) (N := 8) hx hb hts iX1 tyX1 tyX1_ok nmX1 hown hK hP hD hS 0 rfl rfl 1 (by decide) (hts (.fieldLink RX1 9 "PunchedTicket$Moment" "day" "I") (List.mem_of_getElem? (i := 1) rfl)) (fun _ h9 => h9) rfl (by decide +kernel) rfl rfl (Nat.le_of_ble_eq_true rfl) dX1_copy_5 (fun H locs hP hD hS => ?_)
  have hP : va_P D vwCl [(h0, .inr (1, [.ref ln, .int qd, .int mt, .int mr, .int mg, .ref mat, .ref mfd, .ref mhd])), (h1, .inr (1, [.ref ql, .int qd, .int qt, .int qr, .int qg, .ref qat, .ref qfd, .ref qhd])), (mat, .inl (cI, 5, .inl mFat)), (mfd, .inl (cI, 7, .inl mFfd)), (mhd, .inl (cI, 7, .inl mFhd)), (qat, .inl (cI, 5, .inl qFat)), (qfd, .inl (cI, 7, .inl qFfd)), (qhd, .inl (cI, 7, .inl qFhd))] H := hP
  have hD : va_D A [(h0, .inr (1, [.ref ln, .int qd, .int mt, .int mr, .int mg, .ref mat, .ref mfd, .ref mhd])), (h1, .inr (1, [.ref ql, .int qd, .int qt, .int qr, .int qg, .ref qat, .ref qfd, .ref qhd])), (mat, .inl (cI, 5, .inl mFat)), (mfd, .inl (cI, 7, .inl mFfd)), (mhd, .inl (cI, 7, .inl mFhd)), (qat, .inl (cI, 5, .inl qFat)), (qfd, .inl (cI, 7, .inl qFfd)), (qhd, .inl (cI, 7, .inl qFhd))] := hD
  refine lv_aload_n hx hb dX1_copy_8 rfl (lv_at hl 0 rfl) ?_
  refine lv_aload_n hx hb dX1_copy_9 rfl (lv_at hl 1 rfl) ?_
  refine va_get (D := D) (ci := 1) (v := .int qt) (C := RX1) (T := TX1) (N := 8) hx hb hts iX1 hown hK hP 1 rfl rfl 2 (by decide) (hts (.fieldLink RX1 15 "PunchedTicket$Moment" "tickets" "I") (List.mem_of_getElem? (i := 2) rfl)) (fun _ h9 => h9) rfl dX1_copy_10 ?_
  refine va_put (D := D) (ci := 1) (v := .int qt) (ty := .int) (C := RX1) (T := TX1) (N := 8) hx hb hts iX1 tyX1 tyX1_ok nmX1 hown hK hP hD hS 0 rfl rfl 2 (by decide) (hts (.fieldLink RX1 15 "PunchedTicket$Moment" "tickets" "I") (List.mem_of_getElem? (i := 2) rfl)) (fun _ h9 => h9) rfl (by decide +kernel) rfl rfl (Nat.le_of_ble_eq_true rfl) dX1_copy_13 (fun H locs hP hD hS => ?_)
  have hP : va_P D vwCl [(h0, .inr (1, [.ref ln, .int qd, .int qt, .int mr, .int mg, .ref mat, .ref mfd, .ref mhd])), (h1, .inr (1, [.ref ql, .int qd, .int qt, .int qr, .int qg, .ref qat, .ref qfd, .ref qhd])), (mat, .inl (cI, 5, .inl mFat)), (mfd, .inl (cI, 7, .inl mFfd)), (mhd, .inl (cI, 7, .inl mFhd)), (qat, .inl (cI, 5, .inl qFat)), (qfd, .inl (cI, 7, .inl qFfd)), (qhd, .inl (cI, 7, .inl qFhd))] H := hP
  have hD : va_D A [(h0, .inr (1, [.ref ln, .int qd, .int qt, .int mr, .int mg, .ref mat, .ref mfd, .ref mhd])), (h1, .inr (1, [.ref ql, .int qd, .int qt, .int qr, .int qg, .ref qat, .ref qfd, .ref qhd])), (mat, .inl (cI, 5, .inl mFat)), (mfd, .inl (cI, 7, .inl mFfd)), (mhd, .inl (cI, 7, .inl mFhd)), (qat, .inl (cI, 5, .inl qFat)), (qfd, .inl (cI, 7, .inl qFfd)), (qhd, .inl (cI, 7, .inl qFhd))] := hD
  refine lv_aload_n hx hb dX1_copy_16 rfl (lv_at hl 0 rfl) ?_
  refine lv_aload_n hx hb dX1_copy_17 rfl (lv_at hl 1 rfl) ?_
  refine va_get (D := D) (ci := 1) (v := .int qr) (C := RX1) (T := TX1) (N := 8) hx hb hts iX1 hown hK hP 1 rfl rfl 3 (by decide) (hts (.fieldLink RX1 18 "PunchedTicket$Moment" "returns" "I") (List.mem_of_getElem? (i := 3) rfl)) (fun _ h9 => h9) rfl dX1_copy_18 ?_
  refine va_put (D := D) (ci := 1) (v := .int qr) (ty := .int) (C := RX1) (T := TX1) (N := 8) hx hb hts iX1 tyX1 tyX1_ok nmX1 hown hK hP hD hS 0 rfl rfl 3 (by decide) (hts (.fieldLink RX1 18 "PunchedTicket$Moment" "returns" "I") (List.mem_of_getElem? (i := 3) rfl)) (fun _ h9 => h9) rfl (by decide +kernel) rfl rfl (Nat.le_of_ble_eq_true rfl) dX1_copy_21 (fun H locs hP hD hS => ?_)
  have hP : va_P D vwCl [(h0, .inr (1, [.ref ln, .int qd, .int qt, .int qr, .int mg, .ref mat, .ref mfd, .ref mhd])), (h1, .inr (1, [.ref ql, .int qd, .int qt, .int qr, .int qg, .ref qat, .ref qfd, .ref qhd])), (mat, .inl (cI, 5, .inl mFat)), (mfd, .inl (cI, 7, .inl mFfd)), (mhd, .inl (cI, 7, .inl mFhd)), (qat, .inl (cI, 5, .inl qFat)), (qfd, .inl (cI, 7, .inl qFfd)), (qhd, .inl (cI, 7, .inl qFhd))] H := hP
  have hD : va_D A [(h0, .inr (1, [.ref ln, .int qd, .int qt, .int qr, .int mg, .ref mat, .ref mfd, .ref mhd])), (h1, .inr (1, [.ref ql, .int qd, .int qt, .int qr, .int qg, .ref qat, .ref qfd, .ref qhd])), (mat, .inl (cI, 5, .inl mFat)), (mfd, .inl (cI, 7, .inl mFfd)), (mhd, .inl (cI, 7, .inl mFhd)), (qat, .inl (cI, 5, .inl qFat)), (qfd, .inl (cI, 7, .inl qFfd)), (qhd, .inl (cI, 7, .inl qFhd))] := hD
  refine lv_aload_n hx hb dX1_copy_24 rfl (lv_at hl 0 rfl) ?_
  refine lv_aload_n hx hb dX1_copy_25 rfl (lv_at hl 1 rfl) ?_
  refine va_get (D := D) (ci := 1) (v := .int qg) (C := RX1) (T := TX1) (N := 8) hx hb hts iX1 hown hK hP 1 rfl rfl 4 (by decide) (hts (.fieldLink RX1 21 "PunchedTicket$Moment" "gone" "I") (List.mem_of_getElem? (i := 4) rfl)) (fun _ h9 => h9) rfl dX1_copy_26 ?_
  refine va_put (D := D) (ci := 1) (v := .int qg) (ty := .int) (C := RX1) (T := TX1) (N := 8) hx hb hts iX1 tyX1 tyX1_ok nmX1 hown hK hP hD hS 0 rfl rfl 4 (by decide) (hts (.fieldLink RX1 21 "PunchedTicket$Moment" "gone" "I") (List.mem_of_getElem? (i := 4) rfl)) (fun _ h9 => h9) rfl (by decide +kernel) rfl rfl (Nat.le_of_ble_eq_true rfl) dX1_copy_29 (fun H locs hP hD hS => ?_)
  have hP : va_P D vwCl [(h0, .inr (1, [.ref ln, .int qd, .int qt, .int qr, .int qg, .ref mat, .ref mfd, .ref mhd])), (h1, .inr (1, [.ref ql, .int qd, .int qt, .int qr, .int qg, .ref qat, .ref qfd, .ref qhd])), (mat, .inl (cI, 5, .inl mFat)), (mfd, .inl (cI, 7, .inl mFfd)), (mhd, .inl (cI, 7, .inl mFhd)), (qat, .inl (cI, 5, .inl qFat)), (qfd, .inl (cI, 7, .inl qFfd)), (qhd, .inl (cI, 7, .inl qFhd))] H := hP
  have hD : va_D A [(h0, .inr (1, [.ref ln, .int qd, .int qt, .int qr, .int qg, .ref mat, .ref mfd, .ref mhd])), (h1, .inr (1, [.ref ql, .int qd, .int qt, .int qr, .int qg, .ref qat, .ref qfd, .ref qhd])), (mat, .inl (cI, 5, .inl mFat)), (mfd, .inl (cI, 7, .inl mFfd)), (mhd, .inl (cI, 7, .inl mFhd)), (qat, .inl (cI, 5, .inl qFat)), (qfd, .inl (cI, 7, .inl qFfd)), (qhd, .inl (cI, 7, .inl qFhd))] := hD
  refine lv_aload_n hx hb dX1_copy_32 rfl (lv_at hl 1 rfl) ?_
  refine va_get (D := D) (ci := 1) (v := .ref qat) (C := RX1) (T := TX1) (N := 8) hx hb hts iX1 hown hK hP 1 rfl rfl 5 (by decide) (hts (.fieldLink RX1 24 "PunchedTicket$Moment" "at" "[I") (List.mem_of_getElem? (i := 5) rfl)) (fun _ h9 => h9) rfl dX1_copy_33 ?_
  refine lv_iconst (v := 0) hx hb dX1_copy_36 (by decide) ?_
  refine lv_aload_n hx hb dX1_copy_37 rfl (lv_at hl 0 rfl) ?_
  refine va_get (D := D) (ci := 1) (v := .ref mat) (C := RX1) (T := TX1) (N := 8) hx hb hts iX1 hown hK hP 0 rfl rfl 5 (by decide) (hts (.fieldLink RX1 24 "PunchedTicket$Moment" "at" "[I") (List.mem_of_getElem? (i := 5) rfl)) (fun _ h9 => h9) rfl dX1_copy_38 ?_
  refine lv_iconst (v := 0) hx hb dX1_copy_41 (by decide) ?_
  refine lv_iconst (v := 5) hx hb dX1_copy_42 (by decide) ?_
  refine va_copyi (ty := .int) hx hb (hml.trans hl.1.symm) hown (hts (.methodLink RX1 44 arraycopyName) (List.mem_of_getElem? (i := 6) rfl)) (hts (.native arraycopyName) (List.mem_of_getElem? (i := 7) rfl)) (hts (.static arraycopyName) (List.mem_of_getElem? (i := 8) rfl)) (hts (.initialized "java/lang/System") (List.mem_of_getElem? (i := 9) rfl)) hK hP hD hS 5 2 0 0 rfl rfl rfl rfl rfl (by decide) (by decide) (by decide) (by decide) (by decide) (fun _ _ => rfl) (by rw [hR]; decide) (by rw [hR]; decide) dX1_copy_43 (fun H locs hP hD hS => ?_)
  obtain ⟨f_1, ef_1⟩ : ∃ z : Nat → Int32, va_cpy qFat mFat (0 : Int32).toNatClampNeg (0 : Int32).toNatClampNeg (5 : Int32).toNatClampNeg = z := ⟨_, rfl⟩
  rw [ef_1] at hP hD
  have hP : va_P D vwCl [(h0, .inr (1, [.ref ln, .int qd, .int qt, .int qr, .int qg, .ref mat, .ref mfd, .ref mhd])), (h1, .inr (1, [.ref ql, .int qd, .int qt, .int qr, .int qg, .ref qat, .ref qfd, .ref qhd])), (mat, .inl (cI, 5, .inl f_1)), (mfd, .inl (cI, 7, .inl mFfd)), (mhd, .inl (cI, 7, .inl mFhd)), (qat, .inl (cI, 5, .inl qFat)), (qfd, .inl (cI, 7, .inl qFfd)), (qhd, .inl (cI, 7, .inl qFhd))] H := hP
  have hD : va_D A [(h0, .inr (1, [.ref ln, .int qd, .int qt, .int qr, .int qg, .ref mat, .ref mfd, .ref mhd])), (h1, .inr (1, [.ref ql, .int qd, .int qt, .int qr, .int qg, .ref qat, .ref qfd, .ref qhd])), (mat, .inl (cI, 5, .inl f_1)), (mfd, .inl (cI, 7, .inl mFfd)), (mhd, .inl (cI, 7, .inl mFhd)), (qat, .inl (cI, 5, .inl qFat)), (qfd, .inl (cI, 7, .inl qFfd)), (qhd, .inl (cI, 7, .inl qFhd))] := hD
  refine lv_aload_n hx hb dX1_copy_46 rfl (lv_at hl 1 rfl) ?_
  refine va_get (D := D) (ci := 1) (v := .ref qfd) (C := RX1) (T := TX1) (N := 8) hx hb hts iX1 hown hK hP 1 rfl rfl 6 (by decide) (hts (.fieldLink RX1 28 "PunchedTicket$Moment" "forDay" "[I") (List.mem_of_getElem? (i := 10) rfl)) (fun _ h9 => h9) rfl dX1_copy_47 ?_
  refine lv_iconst (v := 0) hx hb dX1_copy_50 (by decide) ?_
  refine lv_aload_n hx hb dX1_copy_51 rfl (lv_at hl 0 rfl) ?_
  refine va_get (D := D) (ci := 1) (v := .ref mfd) (C := RX1) (T := TX1) (N := 8) hx hb hts iX1 hown hK hP 0 rfl rfl 6 (by decide) (hts (.fieldLink RX1 28 "PunchedTicket$Moment" "forDay" "[I") (List.mem_of_getElem? (i := 10) rfl)) (fun _ h9 => h9) rfl dX1_copy_52 ?_
  refine lv_iconst (v := 0) hx hb dX1_copy_55 (by decide) ?_
  refine lv_bipush (v := 6) hx hb dX1_copy_56 (by decide) ?_
  refine va_copyi (ty := .int) hx hb (hml.trans hl.1.symm) hown (hts (.methodLink RX1 44 arraycopyName) (List.mem_of_getElem? (i := 6) rfl)) (hts (.native arraycopyName) (List.mem_of_getElem? (i := 7) rfl)) (hts (.static arraycopyName) (List.mem_of_getElem? (i := 8) rfl)) (hts (.initialized "java/lang/System") (List.mem_of_getElem? (i := 9) rfl)) hK hP hD hS 6 3 0 0 rfl rfl rfl rfl rfl (by decide) (by decide) (by decide) (by decide) (by decide) (fun _ _ => rfl) (by rw [hR]; decide) (by rw [hR]; decide) dX1_copy_58 (fun H locs hP hD hS => ?_)
  obtain ⟨f_2, ef_2⟩ : ∃ z : Nat → Int32, va_cpy qFfd mFfd (0 : Int32).toNatClampNeg (0 : Int32).toNatClampNeg (6 : Int32).toNatClampNeg = z := ⟨_, rfl⟩
  rw [ef_2] at hP hD
  have hP : va_P D vwCl [(h0, .inr (1, [.ref ln, .int qd, .int qt, .int qr, .int qg, .ref mat, .ref mfd, .ref mhd])), (h1, .inr (1, [.ref ql, .int qd, .int qt, .int qr, .int qg, .ref qat, .ref qfd, .ref qhd])), (mat, .inl (cI, 5, .inl f_1)), (mfd, .inl (cI, 7, .inl f_2)), (mhd, .inl (cI, 7, .inl mFhd)), (qat, .inl (cI, 5, .inl qFat)), (qfd, .inl (cI, 7, .inl qFfd)), (qhd, .inl (cI, 7, .inl qFhd))] H := hP
  have hD : va_D A [(h0, .inr (1, [.ref ln, .int qd, .int qt, .int qr, .int qg, .ref mat, .ref mfd, .ref mhd])), (h1, .inr (1, [.ref ql, .int qd, .int qt, .int qr, .int qg, .ref qat, .ref qfd, .ref qhd])), (mat, .inl (cI, 5, .inl f_1)), (mfd, .inl (cI, 7, .inl f_2)), (mhd, .inl (cI, 7, .inl mFhd)), (qat, .inl (cI, 5, .inl qFat)), (qfd, .inl (cI, 7, .inl qFfd)), (qhd, .inl (cI, 7, .inl qFhd))] := hD
  refine lv_aload_n hx hb dX1_copy_61 rfl (lv_at hl 1 rfl) ?_
  refine va_get (D := D) (ci := 1) (v := .ref qhd) (C := RX1) (T := TX1) (N := 8) hx hb hts iX1 hown hK hP 1 rfl rfl 7 (by decide) (hts (.fieldLink RX1 31 "PunchedTicket$Moment" "holder" "[I") (List.mem_of_getElem? (i := 11) rfl)) (fun _ h9 => h9) rfl dX1_copy_62 ?_
  refine lv_iconst (v := 0) hx hb dX1_copy_65 (by decide) ?_
  refine lv_aload_n hx hb dX1_copy_66 rfl (lv_at hl 0 rfl) ?_
  refine va_get (D := D) (ci := 1) (v := .ref mhd) (C := RX1) (T := TX1) (N := 8) hx hb hts iX1 hown hK hP 0 rfl rfl 7 (by decide) (hts (.fieldLink RX1 31 "PunchedTicket$Moment" "holder" "[I") (List.mem_of_getElem? (i := 11) rfl)) (fun _ h9 => h9) rfl dX1_copy_67 ?_
  refine lv_iconst (v := 0) hx hb dX1_copy_70 (by decide) ?_
  refine lv_bipush (v := 6) hx hb dX1_copy_71 (by decide) ?_
  refine va_copyi (ty := .int) hx hb (hml.trans hl.1.symm) hown (hts (.methodLink RX1 44 arraycopyName) (List.mem_of_getElem? (i := 6) rfl)) (hts (.native arraycopyName) (List.mem_of_getElem? (i := 7) rfl)) (hts (.static arraycopyName) (List.mem_of_getElem? (i := 8) rfl)) (hts (.initialized "java/lang/System") (List.mem_of_getElem? (i := 9) rfl)) hK hP hD hS 7 4 0 0 rfl rfl rfl rfl rfl (by decide) (by decide) (by decide) (by decide) (by decide) (fun _ _ => rfl) (by rw [hR]; decide) (by rw [hR]; decide) dX1_copy_73 (fun H locs hP hD hS => ?_)
  obtain ⟨f_3, ef_3⟩ : ∃ z : Nat → Int32, va_cpy qFhd mFhd (0 : Int32).toNatClampNeg (0 : Int32).toNatClampNeg (6 : Int32).toNatClampNeg = z := ⟨_, rfl⟩
  rw [ef_3] at hP hD
  have hP : va_P D vwCl [(h0, .inr (1, [.ref ln, .int qd, .int qt, .int qr, .int qg, .ref mat, .ref mfd, .ref mhd])), (h1, .inr (1, [.ref ql, .int qd, .int qt, .int qr, .int qg, .ref qat, .ref qfd, .ref qhd])), (mat, .inl (cI, 5, .inl f_1)), (mfd, .inl (cI, 7, .inl f_2)), (mhd, .inl (cI, 7, .inl f_3)), (qat, .inl (cI, 5, .inl qFat)), (qfd, .inl (cI, 7, .inl qFfd)), (qhd, .inl (cI, 7, .inl qFhd))] H := hP
  have hD : va_D A [(h0, .inr (1, [.ref ln, .int qd, .int qt, .int qr, .int qg, .ref mat, .ref mfd, .ref mhd])), (h1, .inr (1, [.ref ql, .int qd, .int qt, .int qr, .int qg, .ref qat, .ref qfd, .ref qhd])), (mat, .inl (cI, 5, .inl f_1)), (mfd, .inl (cI, 7, .inl f_2)), (mhd, .inl (cI, 7, .inl f_3)), (qat, .inl (cI, 5, .inl qFat)), (qfd, .inl (cI, 7, .inl qFfd)), (qhd, .inl (cI, 7, .inl qFhd))] := hD
  exact ret_v (post := (fun (u : (Nat → Int32) × (Nat → Int32) × (Nat → Int32)) => True)) (W1 := (fun u => [(h0, .inr (1, [.ref ln, .int qd, .int qt, .int qr, .int qg, .ref mat, .ref mfd, .ref mhd])), (h1, .inr (1, [.ref ql, .int qd, .int qt, .int qr, .int qg, .ref qat, .ref qfd, .ref qhd])), (mat, .inl (cI, 5, .inl u.1)), (mfd, .inl (cI, 7, .inl u.2.1)), (mhd, .inl (cI, 7, .inl u.2.2)), (qat, .inl (cI, 5, .inl qFat)), (qfd, .inl (cI, 7, .inl qFfd)), (qhd, .inl (cI, 7, .inl qFhd))])) (f_1, f_2, f_3) hx hb hr hlocks hQ hK hP hD hS ⟨by decide, by decide⟩ dX1_copy_76 trivial
end
section
theorem dX1_gladNow_0 : decode cX1_gladNow 0 = .ok (.iconst 0, 1) := by decide +kernel
theorem dX1_gladNow_1 : decode cX1_gladNow 1 = .ok (.istore_n 1, 1) := by decide +kernel
theorem dX1_gladNow_2 : decode cX1_gladNow 2 = .ok (.iconst 0, 1) := by decide +kernel
theorem dX1_gladNow_3 : decode cX1_gladNow 3 = .ok (.istore_n 2, 1) := by decide +kernel
theorem dX1_gladNow_4 : decode cX1_gladNow 4 = .ok (.iload_n 2, 1) := by decide +kernel
theorem dX1_gladNow_5 : decode cX1_gladNow 5 = .ok (.aload_n 0, 1) := by decide +kernel
theorem dX1_gladNow_6 : decode cX1_gladNow 6 = .ok (.getfield 34, 3) := by decide +kernel
theorem dX1_gladNow_9 : decode cX1_gladNow 9 = .ok (.getfield 65, 3) := by decide +kernel
theorem dX1_gladNow_12 : decode cX1_gladNow 12 = .ok (.if_icmp .ge 30, 3) := by decide +kernel
theorem dX1_gladNow_15 : decode cX1_gladNow 15 = .ok (.aload_n 0, 1) := by decide +kernel
theorem dX1_gladNow_16 : decode cX1_gladNow 16 = .ok (.getfield 24, 3) := by decide +kernel
theorem dX1_gladNow_19 : decode cX1_gladNow 19 = .ok (.iload_n 2, 1) := by decide +kernel
theorem dX1_gladNow_20 : decode cX1_gladNow 20 = .ok (.iaload, 1) := by decide +kernel
theorem dX1_gladNow_21 : decode cX1_gladNow 21 = .ok (.aload_n 0, 1) := by decide +kernel
theorem dX1_gladNow_22 : decode cX1_gladNow 22 = .ok (.getfield 34, 3) := by decide +kernel
theorem dX1_gladNow_25 : decode cX1_gladNow 25 = .ok (.getfield 68, 3) := by decide +kernel
theorem dX1_gladNow_28 : decode cX1_gladNow 28 = .ok (.iload_n 2, 1) := by decide +kernel
theorem dX1_gladNow_29 : decode cX1_gladNow 29 = .ok (.iaload, 1) := by decide +kernel
theorem dX1_gladNow_30 : decode cX1_gladNow 30 = .ok (.if_icmp .ne 6, 3) := by decide +kernel
theorem dX1_gladNow_33 : decode cX1_gladNow 33 = .ok (.iinc 1 1, 3) := by decide +kernel
theorem dX1_gladNow_36 : decode cX1_gladNow 36 = .ok (.iinc 2 1, 3) := by decide +kernel
theorem dX1_gladNow_39 : decode cX1_gladNow 39 = .ok (.goto (-35), 3) := by decide +kernel
theorem dX1_gladNow_42 : decode cX1_gladNow 42 = .ok (.iload_n 1, 1) := by decide +kernel
theorem dX1_gladNow_43 : decode cX1_gladNow 43 = .ok (.ireturn, 1) := by decide +kernel
set_option maxRecDepth 20000 in
theorem ggX1_findRides_X0_hasPerson : GoodIn wsX1_findRides wsX0_hasPerson := goodIn_r _ [10, 11, 31, 32, 33, 34, 35, 36, 37, 38, 39, 40] (by decide +kernel) (by decide +kernel)
set_option maxRecDepth 20000 in
theorem gX1_findRides_X0_hasPerson : GoodIn wsX1_findRides (wsV RX1 71 RX0 yX0_hasPerson wsX0_hasPerson) := goodIn_app (goodIn_of _ (by decide +kernel)) ggX1_findRides_X0_hasPerson
set_option maxRecDepth 20000 in
theorem ggX1_findRides_X1_canTake : GoodIn wsX1_findRides wsX1_canTake := goodIn_r _ [16, 17, 5, 18, 19, 20, 21, 22, 23, 24, 25, 26, 27, 28, 29, 30, 31, 32, 33, 34, 35, 36, 37, 38, 39, 40] (by decide +kernel) (by decide +kernel)
set_option maxRecDepth 20000 in
theorem gX1_findRides_X1_canTake : GoodIn wsX1_findRides (wsV RX1 74 RX1 yX1_canTake wsX1_canTake) := goodIn_app (goodIn_of _ (by decide +kernel)) ggX1_findRides_X1_canTake
theorem dX1_findRides_0 : decode cX1_findRides 0 = .ok (.iconst 0, 1) := by decide +kernel
theorem dX1_findRides_1 : decode cX1_findRides 1 = .ok (.istore_n 2, 1) := by decide +kernel
theorem dX1_findRides_2 : decode cX1_findRides 2 = .ok (.iload_n 2, 1) := by decide +kernel
theorem dX1_findRides_3 : decode cX1_findRides 3 = .ok (.iconst 5, 1) := by decide +kernel
theorem dX1_findRides_4 : decode cX1_findRides 4 = .ok (.if_icmp .ge 14, 3) := by decide +kernel
theorem dX1_findRides_7 : decode cX1_findRides 7 = .ok (.aload_n 1, 1) := by decide +kernel
theorem dX1_findRides_8 : decode cX1_findRides 8 = .ok (.iload_n 2, 1) := by decide +kernel
theorem dX1_findRides_9 : decode cX1_findRides 9 = .ok (.bipush (-9), 2) := by decide +kernel
theorem dX1_findRides_11 : decode cX1_findRides 11 = .ok (.iastore, 1) := by decide +kernel
theorem dX1_findRides_12 : decode cX1_findRides 12 = .ok (.iinc 2 1, 3) := by decide +kernel
theorem dX1_findRides_15 : decode cX1_findRides 15 = .ok (.goto (-13), 3) := by decide +kernel
theorem dX1_findRides_18 : decode cX1_findRides 18 = .ok (.iconst 0, 1) := by decide +kernel
theorem dX1_findRides_19 : decode cX1_findRides 19 = .ok (.istore_n 2, 1) := by decide +kernel
theorem dX1_findRides_20 : decode cX1_findRides 20 = .ok (.iload_n 2, 1) := by decide +kernel
theorem dX1_findRides_21 : decode cX1_findRides 21 = .ok (.aload_n 0, 1) := by decide +kernel
theorem dX1_findRides_22 : decode cX1_findRides 22 = .ok (.getfield 15, 3) := by decide +kernel
theorem dX1_findRides_25 : decode cX1_findRides 25 = .ok (.if_icmp .ge 61, 3) := by decide +kernel
theorem dX1_findRides_28 : decode cX1_findRides 28 = .ok (.aload_n 0, 1) := by decide +kernel
theorem dX1_findRides_29 : decode cX1_findRides 29 = .ok (.getfield 31, 3) := by decide +kernel
theorem dX1_findRides_32 : decode cX1_findRides 32 = .ok (.iload_n 2, 1) := by decide +kernel
theorem dX1_findRides_33 : decode cX1_findRides 33 = .ok (.iaload, 1) := by decide +kernel
theorem dX1_findRides_34 : decode cX1_findRides 34 = .ok (.istore_n 3, 1) := by decide +kernel
theorem dX1_findRides_35 : decode cX1_findRides 35 = .ok (.aload_n 0, 1) := by decide +kernel
theorem dX1_findRides_36 : decode cX1_findRides 36 = .ok (.getfield 28, 3) := by decide +kernel
theorem dX1_findRides_39 : decode cX1_findRides 39 = .ok (.iload_n 2, 1) := by decide +kernel
theorem dX1_findRides_40 : decode cX1_findRides 40 = .ok (.iaload, 1) := by decide +kernel
theorem dX1_findRides_41 : decode cX1_findRides 41 = .ok (.aload_n 0, 1) := by decide +kernel
theorem dX1_findRides_42 : decode cX1_findRides 42 = .ok (.getfield 9, 3) := by decide +kernel
theorem dX1_findRides_45 : decode cX1_findRides 45 = .ok (.if_icmp .ne 35, 3) := by decide +kernel
theorem dX1_findRides_48 : decode cX1_findRides 48 = .ok (.aload_n 0, 1) := by decide +kernel
theorem dX1_findRides_49 : decode cX1_findRides 49 = .ok (.getfield 34, 3) := by decide +kernel
theorem dX1_findRides_52 : decode cX1_findRides 52 = .ok (.iload_n 3, 1) := by decide +kernel
theorem dX1_findRides_53 : decode cX1_findRides 53 = .ok (.invokevirtual 71, 3) := by decide +kernel
theorem dX1_findRides_56 : decode cX1_findRides 56 = .ok (.ifCond .eq 24, 3) := by decide +kernel
theorem dX1_findRides_59 : decode cX1_findRides 59 = .ok (.aload_n 1, 1) := by decide +kernel
theorem dX1_findRides_60 : decode cX1_findRides 60 = .ok (.iload_n 3, 1) := by decide +kernel
theorem dX1_findRides_61 : decode cX1_findRides 61 = .ok (.iaload, 1) := by decide +kernel
theorem dX1_findRides_62 : decode cX1_findRides 62 = .ok (.bipush (-9), 2) := by decide +kernel
theorem dX1_findRides_64 : decode cX1_findRides 64 = .ok (.if_icmp .ne 16, 3) := by decide +kernel
theorem dX1_findRides_67 : decode cX1_findRides 67 = .ok (.aload_n 0, 1) := by decide +kernel
theorem dX1_findRides_68 : decode cX1_findRides 68 = .ok (.iload_n 2, 1) := by decide +kernel
theorem dX1_findRides_69 : decode cX1_findRides 69 = .ok (.iload_n 3, 1) := by decide +kernel
theorem dX1_findRides_70 : decode cX1_findRides 70 = .ok (.invokevirtual 74, 3) := by decide +kernel
theorem dX1_findRides_73 : decode cX1_findRides 73 = .ok (.ifCond .eq 7, 3) := by decide +kernel
theorem dX1_findRides_76 : decode cX1_findRides 76 = .ok (.aload_n 1, 1) := by decide +kernel
theorem dX1_findRides_77 : decode cX1_findRides 77 = .ok (.iload_n 3, 1) := by decide +kernel
theorem dX1_findRides_78 : decode cX1_findRides 78 = .ok (.iload_n 2, 1) := by decide +kernel
theorem dX1_findRides_79 : decode cX1_findRides 79 = .ok (.iastore, 1) := by decide +kernel
theorem dX1_findRides_80 : decode cX1_findRides 80 = .ok (.iinc 2 1, 3) := by decide +kernel
theorem dX1_findRides_83 : decode cX1_findRides 83 = .ok (.goto (-63), 3) := by decide +kernel
theorem dX1_findRides_86 : decode cX1_findRides 86 = .ok (.return_, 1) := by decide +kernel
set_option maxRecDepth 20000 in
theorem ggX1_passDay_X1_findRides : GoodIn wsX1_passDay wsX1_findRides := goodIn_r _ [9, 10, 11, 12, 4, 1, 13, 14, 15, 16, 17, 18, 19, 20, 21, 8, 22, 23, 24, 25, 26, 27, 3, 44, 45, 46, 47, 48, 49, 50, 51, 52, 53, 54, 55, 56, 57, 58, 59, 60, 61] (by decide +kernel) (by decide +kernel)
set_option maxRecDepth 20000 in
theorem gX1_passDay_X1_findRides : GoodIn wsX1_passDay (wsV RX1 81 RX1 yX1_findRides wsX1_findRides) := goodIn_app (goodIn_of _ (by decide +kernel)) ggX1_passDay_X1_findRides
set_option maxRecDepth 20000 in
theorem ggX1_passDay_X1_hasTicket : GoodIn wsX1_passDay wsX1_hasTicket := goodIn_r _ [31, 10, 44, 45, 46, 47, 48, 49, 50, 51] (by decide +kernel) (by decide +kernel)
set_option maxRecDepth 20000 in
theorem gX1_passDay_X1_hasTicket : GoodIn wsX1_passDay (wsV RX1 85 RX1 yX1_hasTicket wsX1_hasTicket) := goodIn_app (goodIn_of _ (by decide +kernel)) ggX1_passDay_X1_hasTicket
set_option maxRecDepth 20000 in
theorem ggX1_passDay_X1_to : GoodIn wsX1_passDay wsX1_to := goodIn_r _ [35, 1, 25, 24, 36, 37, 38, 8, 39, 23, 44, 45, 46, 47, 48, 49, 50, 51, 52, 53, 54, 55, 56, 57, 58, 59, 60, 61] (by decide +kernel) (by decide +kernel)
set_option maxRecDepth 20000 in
theorem gX1_passDay_X1_to : GoodIn wsX1_passDay (wsV RX1 88 RX1 yX1_to wsX1_to) := goodIn_app (goodIn_of _ (by decide +kernel)) ggX1_passDay_X1_to
set_option maxRecDepth 20000 in
theorem ggX1_passDay_X1_useTicket : GoodIn wsX1_passDay wsX1_useTicket := goodIn_r _ [43, 1, 27, 4, 23, 12, 11, 2, 26, 36, 37, 38, 8, 39, 44, 45, 46, 47, 48, 49, 50, 51, 52, 53, 54, 55, 56, 57, 58, 59, 60, 61] (by decide +kernel) (by decide +kernel)
set_option maxRecDepth 20000 in
theorem gX1_passDay_X1_useTicket : GoodIn wsX1_passDay (wsV RX1 91 RX1 yX1_useTicket wsX1_useTicket) := goodIn_app (goodIn_of _ (by decide +kernel)) ggX1_passDay_X1_useTicket
theorem dX1_passDay_0 : decode cX1_passDay 0 = .ok (.iconst 0, 1) := by decide +kernel
theorem dX1_passDay_1 : decode cX1_passDay 1 = .ok (.istore_n 2, 1) := by decide +kernel
theorem dX1_passDay_2 : decode cX1_passDay 2 = .ok (.aload_n 0, 1) := by decide +kernel
theorem dX1_passDay_3 : decode cX1_passDay 3 = .ok (.aload_n 1, 1) := by decide +kernel
theorem dX1_passDay_4 : decode cX1_passDay 4 = .ok (.invokevirtual 81, 3) := by decide +kernel
theorem dX1_passDay_7 : decode cX1_passDay 7 = .ok (.iconst 0, 1) := by decide +kernel
theorem dX1_passDay_8 : decode cX1_passDay 8 = .ok (.istore_n 3, 1) := by decide +kernel
theorem dX1_passDay_9 : decode cX1_passDay 9 = .ok (.iload_n 3, 1) := by decide +kernel
theorem dX1_passDay_10 : decode cX1_passDay 10 = .ok (.aload_n 0, 1) := by decide +kernel
theorem dX1_passDay_11 : decode cX1_passDay 11 = .ok (.getfield 34, 3) := by decide +kernel
theorem dX1_passDay_14 : decode cX1_passDay 14 = .ok (.getfield 65, 3) := by decide +kernel
theorem dX1_passDay_17 : decode cX1_passDay 17 = .ok (.if_icmp .ge 48, 3) := by decide +kernel
theorem dX1_passDay_20 : decode cX1_passDay 20 = .ok (.aload_n 1, 1) := by decide +kernel
theorem dX1_passDay_21 : decode cX1_passDay 21 = .ok (.iload_n 3, 1) := by decide +kernel
theorem dX1_passDay_22 : decode cX1_passDay 22 = .ok (.iaload, 1) := by decide +kernel
theorem dX1_passDay_23 : decode cX1_passDay 23 = .ok (.istore 4, 2) := by decide +kernel
theorem dX1_passDay_25 : decode cX1_passDay 25 = .ok (.aload_n 0, 1) := by decide +kernel
theorem dX1_passDay_26 : decode cX1_passDay 26 = .ok (.iload 4, 2) := by decide +kernel
theorem dX1_passDay_28 : decode cX1_passDay 28 = .ok (.invokevirtual 85, 3) := by decide +kernel
theorem dX1_passDay_31 : decode cX1_passDay 31 = .ok (.ifCond .eq 28, 3) := by decide +kernel
theorem dX1_passDay_34 : decode cX1_passDay 34 = .ok (.aload_n 0, 1) := by decide +kernel
theorem dX1_passDay_35 : decode cX1_passDay 35 = .ok (.getfield 24, 3) := by decide +kernel
theorem dX1_passDay_38 : decode cX1_passDay 38 = .ok (.iload_n 3, 1) := by decide +kernel
theorem dX1_passDay_39 : decode cX1_passDay 39 = .ok (.aload_n 0, 1) := by decide +kernel
theorem dX1_passDay_40 : decode cX1_passDay 40 = .ok (.iload 4, 2) := by decide +kernel
theorem dX1_passDay_42 : decode cX1_passDay 42 = .ok (.invokevirtual 88, 3) := by decide +kernel
theorem dX1_passDay_45 : decode cX1_passDay 45 = .ok (.iastore, 1) := by decide +kernel
theorem dX1_passDay_46 : decode cX1_passDay 46 = .ok (.aload_n 0, 1) := by decide +kernel
theorem dX1_passDay_47 : decode cX1_passDay 47 = .ok (.iload 4, 2) := by decide +kernel
theorem dX1_passDay_49 : decode cX1_passDay 49 = .ok (.iload_n 3, 1) := by decide +kernel
theorem dX1_passDay_50 : decode cX1_passDay 50 = .ok (.invokevirtual 91, 3) := by decide +kernel
theorem dX1_passDay_53 : decode cX1_passDay 53 = .ok (.iload_n 2, 1) := by decide +kernel
theorem dX1_passDay_54 : decode cX1_passDay 54 = .ok (.iconst 1, 1) := by decide +kernel
theorem dX1_passDay_55 : decode cX1_passDay 55 = .ok (.iload_n 3, 1) := by decide +kernel
theorem dX1_passDay_56 : decode cX1_passDay 56 = .ok (.ishl, 1) := by decide +kernel
theorem dX1_passDay_57 : decode cX1_passDay 57 = .ok (.ior, 1) := by decide +kernel
theorem dX1_passDay_58 : decode cX1_passDay 58 = .ok (.istore_n 2, 1) := by decide +kernel
theorem dX1_passDay_59 : decode cX1_passDay 59 = .ok (.iinc 3 1, 3) := by decide +kernel
theorem dX1_passDay_62 : decode cX1_passDay 62 = .ok (.goto (-53), 3) := by decide +kernel
theorem dX1_passDay_65 : decode cX1_passDay 65 = .ok (.aload_n 0, 1) := by decide +kernel
theorem dX1_passDay_66 : decode cX1_passDay 66 = .ok (.dup, 1) := by decide +kernel
theorem dX1_passDay_67 : decode cX1_passDay 67 = .ok (.getfield 9, 3) := by decide +kernel
theorem dX1_passDay_70 : decode cX1_passDay 70 = .ok (.iconst 1, 1) := by decide +kernel
theorem dX1_passDay_71 : decode cX1_passDay 71 = .ok (.iadd, 1) := by decide +kernel
theorem dX1_passDay_72 : decode cX1_passDay 72 = .ok (.putfield 9, 3) := by decide +kernel
theorem dX1_passDay_75 : decode cX1_passDay 75 = .ok (.iload_n 2, 1) := by decide +kernel
theorem dX1_passDay_76 : decode cX1_passDay 76 = .ok (.ireturn, 1) := by decide +kernel
set_option maxRecDepth 20000 in
theorem ggX1_useTicket_X1_isReturn : GoodIn wsX1_useTicket wsX1_isReturn := goodIn_r _ [13, 4, 14, 15, 16, 17, 18, 19, 20, 21] (by decide +kernel) (by decide +kernel)
set_option maxRecDepth 20000 in
theorem gX1_useTicket_X1_isReturn : GoodIn wsX1_useTicket (wsV RX1 52 RX1 yX1_isReturn wsX1_isReturn) := goodIn_app (goodIn_of _ (by decide +kernel)) ggX1_useTicket_X1_isReturn
theorem dX1_useTicket_0 : decode cX1_useTicket 0 = .ok (.aload_n 0, 1) := by decide +kernel
theorem dX1_useTicket_1 : decode cX1_useTicket 1 = .ok (.getfield 34, 3) := by decide +kernel
theorem dX1_useTicket_4 : decode cX1_useTicket 4 = .ok (.getfield 78, 3) := by decide +kernel
theorem dX1_useTicket_7 : decode cX1_useTicket 7 = .ok (.iload_n 2, 1) := by decide +kernel
theorem dX1_useTicket_8 : decode cX1_useTicket 8 = .ok (.iaload, 1) := by decide +kernel
theorem dX1_useTicket_9 : decode cX1_useTicket 9 = .ok (.istore_n 3, 1) := by decide +kernel
theorem dX1_useTicket_10 : decode cX1_useTicket 10 = .ok (.iload_n 3, 1) := by decide +kernel
theorem dX1_useTicket_11 : decode cX1_useTicket 11 = .ok (.iconst 1, 1) := by decide +kernel
theorem dX1_useTicket_12 : decode cX1_useTicket 12 = .ok (.if_icmp .ne 49, 3) := by decide +kernel
theorem dX1_useTicket_15 : decode cX1_useTicket 15 = .ok (.aload_n 0, 1) := by decide +kernel
theorem dX1_useTicket_16 : decode cX1_useTicket 16 = .ok (.iload_n 1, 1) := by decide +kernel
theorem dX1_useTicket_17 : decode cX1_useTicket 17 = .ok (.invokevirtual 52, 3) := by decide +kernel
theorem dX1_useTicket_20 : decode cX1_useTicket 20 = .ok (.ifCond .ne 41, 3) := by decide +kernel
theorem dX1_useTicket_23 : decode cX1_useTicket 23 = .ok (.aload_n 0, 1) := by decide +kernel
theorem dX1_useTicket_24 : decode cX1_useTicket 24 = .ok (.getfield 9, 3) := by decide +kernel
theorem dX1_useTicket_27 : decode cX1_useTicket 27 = .ok (.iconst 1, 1) := by decide +kernel
theorem dX1_useTicket_28 : decode cX1_useTicket 28 = .ok (.iadd, 1) := by decide +kernel
theorem dX1_useTicket_29 : decode cX1_useTicket 29 = .ok (.bipush 10, 2) := by decide +kernel
theorem dX1_useTicket_31 : decode cX1_useTicket 31 = .ok (.if_icmp .ge 30, 3) := by decide +kernel
theorem dX1_useTicket_34 : decode cX1_useTicket 34 = .ok (.aload_n 0, 1) := by decide +kernel
theorem dX1_useTicket_35 : decode cX1_useTicket 35 = .ok (.dup, 1) := by decide +kernel
theorem dX1_useTicket_36 : decode cX1_useTicket 36 = .ok (.getfield 18, 3) := by decide +kernel
theorem dX1_useTicket_39 : decode cX1_useTicket 39 = .ok (.iconst 1, 1) := by decide +kernel
theorem dX1_useTicket_40 : decode cX1_useTicket 40 = .ok (.iload_n 1, 1) := by decide +kernel
theorem dX1_useTicket_41 : decode cX1_useTicket 41 = .ok (.ishl, 1) := by decide +kernel
theorem dX1_useTicket_42 : decode cX1_useTicket 42 = .ok (.ior, 1) := by decide +kernel
theorem dX1_useTicket_43 : decode cX1_useTicket 43 = .ok (.putfield 18, 3) := by decide +kernel
theorem dX1_useTicket_46 : decode cX1_useTicket 46 = .ok (.aload_n 0, 1) := by decide +kernel
theorem dX1_useTicket_47 : decode cX1_useTicket 47 = .ok (.getfield 28, 3) := by decide +kernel
theorem dX1_useTicket_50 : decode cX1_useTicket 50 = .ok (.iload_n 1, 1) := by decide +kernel
theorem dX1_useTicket_51 : decode cX1_useTicket 51 = .ok (.aload_n 0, 1) := by decide +kernel
theorem dX1_useTicket_52 : decode cX1_useTicket 52 = .ok (.getfield 9, 3) := by decide +kernel
theorem dX1_useTicket_55 : decode cX1_useTicket 55 = .ok (.iconst 1, 1) := by decide +kernel
theorem dX1_useTicket_56 : decode cX1_useTicket 56 = .ok (.iadd, 1) := by decide +kernel
theorem dX1_useTicket_57 : decode cX1_useTicket 57 = .ok (.iastore, 1) := by decide +kernel
theorem dX1_useTicket_58 : decode cX1_useTicket 58 = .ok (.goto 86, 3) := by decide +kernel
theorem dX1_useTicket_61 : decode cX1_useTicket 61 = .ok (.iload_n 3, 1) := by decide +kernel
theorem dX1_useTicket_62 : decode cX1_useTicket 62 = .ok (.iconst 2, 1) := by decide +kernel
theorem dX1_useTicket_63 : decode cX1_useTicket 63 = .ok (.if_icmp .ne 69, 3) := by decide +kernel
theorem dX1_useTicket_66 : decode cX1_useTicket 66 = .ok (.aload_n 0, 1) := by decide +kernel
theorem dX1_useTicket_67 : decode cX1_useTicket 67 = .ok (.getfield 9, 3) := by decide +kernel
theorem dX1_useTicket_70 : decode cX1_useTicket 70 = .ok (.iconst 3, 1) := by decide +kernel
theorem dX1_useTicket_71 : decode cX1_useTicket 71 = .ok (.iadd, 1) := by decide +kernel
theorem dX1_useTicket_72 : decode cX1_useTicket 72 = .ok (.bipush 10, 2) := by decide +kernel
theorem dX1_useTicket_74 : decode cX1_useTicket 74 = .ok (.if_icmp .ge 58, 3) := by decide +kernel
theorem dX1_useTicket_77 : decode cX1_useTicket 77 = .ok (.aload_n 0, 1) := by decide +kernel
theorem dX1_useTicket_78 : decode cX1_useTicket 78 = .ok (.dup, 1) := by decide +kernel
theorem dX1_useTicket_79 : decode cX1_useTicket 79 = .ok (.getfield 18, 3) := by decide +kernel
theorem dX1_useTicket_82 : decode cX1_useTicket 82 = .ok (.iconst 1, 1) := by decide +kernel
theorem dX1_useTicket_83 : decode cX1_useTicket 83 = .ok (.iload_n 1, 1) := by decide +kernel
theorem dX1_useTicket_84 : decode cX1_useTicket 84 = .ok (.ishl, 1) := by decide +kernel
theorem dX1_useTicket_85 : decode cX1_useTicket 85 = .ok (.iconst (-1), 1) := by decide +kernel
theorem dX1_useTicket_86 : decode cX1_useTicket 86 = .ok (.ixor, 1) := by decide +kernel
theorem dX1_useTicket_87 : decode cX1_useTicket 87 = .ok (.iand, 1) := by decide +kernel
theorem dX1_useTicket_88 : decode cX1_useTicket 88 = .ok (.putfield 18, 3) := by decide +kernel
theorem dX1_useTicket_91 : decode cX1_useTicket 91 = .ok (.aload_n 0, 1) := by decide +kernel
theorem dX1_useTicket_92 : decode cX1_useTicket 92 = .ok (.getfield 28, 3) := by decide +kernel
theorem dX1_useTicket_95 : decode cX1_useTicket 95 = .ok (.iload_n 1, 1) := by decide +kernel
theorem dX1_useTicket_96 : decode cX1_useTicket 96 = .ok (.aload_n 0, 1) := by decide +kernel
theorem dX1_useTicket_97 : decode cX1_useTicket 97 = .ok (.getfield 9, 3) := by decide +kernel
theorem dX1_useTicket_100 : decode cX1_useTicket 100 = .ok (.iconst 3, 1) := by decide +kernel
theorem dX1_useTicket_101 : decode cX1_useTicket 101 = .ok (.iadd, 1) := by decide +kernel
theorem dX1_useTicket_102 : decode cX1_useTicket 102 = .ok (.iastore, 1) := by decide +kernel
theorem dX1_useTicket_103 : decode cX1_useTicket 103 = .ok (.aload_n 0, 1) := by decide +kernel
theorem dX1_useTicket_104 : decode cX1_useTicket 104 = .ok (.getfield 31, 3) := by decide +kernel
theorem dX1_useTicket_107 : decode cX1_useTicket 107 = .ok (.iload_n 1, 1) := by decide +kernel
theorem dX1_useTicket_108 : decode cX1_useTicket 108 = .ok (.iload_n 2, 1) := by decide +kernel
theorem dX1_useTicket_109 : decode cX1_useTicket 109 = .ok (.iconst 1, 1) := by decide +kernel
theorem dX1_useTicket_110 : decode cX1_useTicket 110 = .ok (.iadd, 1) := by decide +kernel
theorem dX1_useTicket_111 : decode cX1_useTicket 111 = .ok (.aload_n 0, 1) := by decide +kernel
theorem dX1_useTicket_112 : decode cX1_useTicket 112 = .ok (.getfield 34, 3) := by decide +kernel
theorem dX1_useTicket_115 : decode cX1_useTicket 115 = .ok (.getfield 65, 3) := by decide +kernel
theorem dX1_useTicket_118 : decode cX1_useTicket 118 = .ok (.if_icmp .ge 9, 3) := by decide +kernel
theorem dX1_useTicket_121 : decode cX1_useTicket 121 = .ok (.iload_n 2, 1) := by decide +kernel
theorem dX1_useTicket_122 : decode cX1_useTicket 122 = .ok (.iconst 1, 1) := by decide +kernel
theorem dX1_useTicket_123 : decode cX1_useTicket 123 = .ok (.iadd, 1) := by decide +kernel
theorem dX1_useTicket_124 : decode cX1_useTicket 124 = .ok (.goto 4, 3) := by decide +kernel
theorem dX1_useTicket_127 : decode cX1_useTicket 127 = .ok (.iconst 0, 1) := by decide +kernel
theorem dX1_useTicket_128 : decode cX1_useTicket 128 = .ok (.iastore, 1) := by decide +kernel
theorem dX1_useTicket_129 : decode cX1_useTicket 129 = .ok (.goto 15, 3) := by decide +kernel
theorem dX1_useTicket_132 : decode cX1_useTicket 132 = .ok (.aload_n 0, 1) := by decide +kernel
theorem dX1_useTicket_133 : decode cX1_useTicket 133 = .ok (.dup, 1) := by decide +kernel
theorem dX1_useTicket_134 : decode cX1_useTicket 134 = .ok (.getfield 21, 3) := by decide +kernel
theorem dX1_useTicket_137 : decode cX1_useTicket 137 = .ok (.iconst 1, 1) := by decide +kernel
theorem dX1_useTicket_138 : decode cX1_useTicket 138 = .ok (.iload_n 1, 1) := by decide +kernel
theorem dX1_useTicket_139 : decode cX1_useTicket 139 = .ok (.ishl, 1) := by decide +kernel
theorem dX1_useTicket_140 : decode cX1_useTicket 140 = .ok (.ior, 1) := by decide +kernel
theorem dX1_useTicket_141 : decode cX1_useTicket 141 = .ok (.putfield 21, 3) := by decide +kernel
theorem dX1_useTicket_144 : decode cX1_useTicket 144 = .ok (.return_, 1) := by decide +kernel
set_option maxHeartbeats 600000 in
set_option maxRecDepth 100000 in
theorem c_X1_findRides (l : Launch) (D : va_G) (cI cZ cM : ClassId) (h0 : Nat) (rd : Nat) (ln : Nat) (md : Int32) (mt : Int32) (mr : Int32) (mg : Int32) (mat : Nat) (mfd : Nat) (mhd : Nat) (lpe : Int32) (ltk : Int32) (lho : Nat) (lli : Nat) (lki : Nat) (lfd : Nat) (lfr : Nat) (lto : Nat) (lse : Nat) (lhl : Nat) (lFto : Nat → Int32) (lFfr : Nat → Int32) (lFki : Nat → Int32) (mFat : Nat → Int32) (mFfd : Nat → Int32) (mFhd : Nat → Int32) (Frd : Nat → Int32) (sz : Nat) (h_mt : 0 ≤ mt.toInt ∧ mt.toInt ≤ 7) (h_lpe : 0 ≤ lpe.toInt ∧ lpe.toInt ≤ 5) : Cv l yX1_findRides wsX1_findRides ({ frames := 1, cells := 0, slots := 0, locals := 24 } : Room) D cI cZ cM [.ref h0, .ref rd] [(h0, .inr (1, [.ref ln, .int md, .int mt, .int mr, .int mg, .ref mat, .ref mfd, .ref mhd])), (ln, .inr (0, [.int lpe, .int ltk, .ref lho, .ref lli, .ref lki, .ref lfd, .ref lfr, .ref lto, .ref lse, .ref lhl])), (lto, .inl (cI, 7, .inl lFto)), (lfr, .inl (cI, 7, .inl lFfr)), (lki, .inl (cI, 5, .inl lFki)), (mat, .inl (cI, 5, .inl mFat)), (mfd, .inl (cI, 7, .inl mFfd)), (mhd, .inl (cI, 7, .inl mFhd)), (rd, .inl (cI, 5, .inl Frd))] sz (fun (u : (Nat → Int32)) => True) (fun u => [(h0, .inr (1, [.ref ln, .int md, .int mt, .int mr, .int mg, .ref mat, .ref mfd, .ref mhd])), (ln, .inr (0, [.int lpe, .int ltk, .ref lho, .ref lli, .ref lki, .ref lfd, .ref lfr, .ref lto, .ref lse, .ref lhl])), (lto, .inl (cI, 7, .inl lFto)), (lfr, .inl (cI, 7, .inl lFfr)), (lki, .inl (cI, 5, .inl lFki)), (mat, .inl (cI, 5, .inl mFat)), (mfd, .inl (cI, 7, .inl mFfd)), (mhd, .inl (cI, 7, .inl mFhd)), (rd, .inl (cI, 5, .inl u))]) 0 0 := by
  refine begins (l := l) (y := yX1_findRides) (ws := wsX1_findRides) (av := [.ref h0, .ref rd]) (Qc := fun A => va_Qv (fun (u : (Nat → Int32)) => True) (fun u => Wd D cI cZ cM A ((fun u => [(h0, .inr (1, [.ref ln, .int md, .int mt, .int mr, .int mg, .ref mat, .ref mfd, .ref mhd])), (ln, .inr (0, [.int lpe, .int ltk, .ref lho, .ref lli, .ref lki, .ref lfd, .ref lfr, .ref lto, .ref lse, .ref lhl])), (lto, .inl (cI, 7, .inl lFto)), (lfr, .inl (cI, 7, .inl lFfr)), (lki, .inl (cI, 5, .inl lFki)), (mat, .inl (cI, 5, .inl mFat)), (mfd, .inl (cI, 7, .inl mFfd)), (mhd, .inl (cI, 7, .inl mFhd)), (rd, .inl (cI, 5, .inl u))]) u)) A) cX1_findRides 4 none (by decide) rfl (Nat.le_of_ble_eq_true rfl) ?_
  intro p e s m args below meth c R Q A ls hBd hR hQ hA hS hK hP hD hl
  obtain ⟨hx, hb, hr, hts, hown, hlocks, hin, hml⟩ := hBd
  have hl : lv_has ls 4 [(0, .ref h0), (1, .ref rd)] := hl
  have iX1 : ∀ w ∈ wsX10, w ∈ wsX1_findRides := fun _ h => List.mem_cons_of_mem _ (List.mem_append_left _ (List.mem_append_right _ h))
  have iX0 : ∀ w ∈ wsX00, w ∈ wsX1_findRides := fun _ h => List.mem_cons_of_mem _ (List.mem_append_right _ h)
  obtain ⟨h_mta, h_mtb⟩ := h_mt
  obtain ⟨h_lpea, h_lpeb⟩ := h_lpe
  refine lv_iconst (v := 0) hx hb dX1_findRides_0 (by decide) ?_
  refine lv_istore_n (lv' := [(2, .int 0), (0, .ref h0), (1, .ref rd)]) hx hb dX1_findRides_1 rfl hl (by decide) rfl (fun ls hl => ?_)
  have LOOP_1 : ∀ (fu : Nat) (x2 : Int32) (gr : Nat → Int32) (H : Heap) (locs : List Loc) (ls : Array Slot), (5 - x2.toInt).toNat < fu → (0 ≤ x2.toInt ∧ x2.toInt ≤ 5) → va_P D vwCl [(h0, .inr (1, [.ref ln, .int md, .int mt, .int mr, .int mg, .ref mat, .ref mfd, .ref mhd])), (ln, .inr (0, [.int lpe, .int ltk, .ref lho, .ref lli, .ref lki, .ref lfd, .ref lfr, .ref lto, .ref lse, .ref lhl])), (lto, .inl (cI, 7, .inl lFto)), (lfr, .inl (cI, 7, .inl lFfr)), (lki, .inl (cI, 5, .inl lFki)), (mat, .inl (cI, 5, .inl mFat)), (mfd, .inl (cI, 7, .inl mFfd)), (mhd, .inl (cI, 7, .inl mFhd)), (rd, .inl (cI, 5, .inl gr))] H → va_D A [(h0, .inr (1, [.ref ln, .int md, .int mt, .int mr, .int mg, .ref mat, .ref mfd, .ref mhd])), (ln, .inr (0, [.int lpe, .int ltk, .ref lho, .ref lli, .ref lki, .ref lfd, .ref lfr, .ref lto, .ref lse, .ref lhl])), (lto, .inl (cI, 7, .inl lFto)), (lfr, .inl (cI, 7, .inl lFfr)), (lki, .inl (cI, 5, .inl lFki)), (mat, .inl (cI, 5, .inl mFat)), (mfd, .inl (cI, 7, .inl mFfd)), (mhd, .inl (cI, 7, .inl mFhd)), (rd, .inl (cI, 5, .inl gr))] → va_S A s.heap H locs → lv_has ls 4 [(0, .ref h0), (1, .ref rd), (2, .int x2)] → W p l e R s m args below meth c H locs 0 0 Q (F0 m 2 ls []) := by
    intro fu
    induction fu with
    | zero => intro x2 gr H locs ls hmu; exact absurd hmu (Nat.not_lt_zero _)
    | succ fu ih =>
      intro x2 gr H locs ls hmu h_x2 hP hD hS hl
      obtain ⟨h_x2a, h_x2b⟩ := h_x2
      have ih_2 := ih
      clear ih
      refine lv_iload_n hx hb dX1_findRides_2 rfl (lv_at hl 2 rfl) ?_
      refine lv_iconst (v := 5) hx hb dX1_findRides_3 (by decide) ?_
      refine lv_icmp_ge (tgt := 18) hx hb dX1_findRides_4 (by decide) (fun c_3 => ?_) (fun c_3 => ?_)
      · have tc_3 := b_le (show (5 : Int32).toInt = 5 by decide) rfl c_3
        refine lv_iconst (v := 0) hx hb dX1_findRides_18 (by decide) ?_
        refine lv_istore_n (lv' := [(2, .int 0), (0, .ref h0), (1, .ref rd)]) hx hb dX1_findRides_19 rfl hl (by decide) rfl (fun ls hl => ?_)
        have LOOP_4 : ∀ (fu : Nat) (y2 : Int32) (kr : Nat → Int32) (H : Heap) (locs : List Loc) (ls : Array Slot), (7 - y2.toInt).toNat < fu → (0 ≤ y2.toInt ∧ y2.toInt ≤ 7) → va_P D vwCl [(h0, .inr (1, [.ref ln, .int md, .int mt, .int mr, .int mg, .ref mat, .ref mfd, .ref mhd])), (ln, .inr (0, [.int lpe, .int ltk, .ref lho, .ref lli, .ref lki, .ref lfd, .ref lfr, .ref lto, .ref lse, .ref lhl])), (lto, .inl (cI, 7, .inl lFto)), (lfr, .inl (cI, 7, .inl lFfr)), (lki, .inl (cI, 5, .inl lFki)), (mat, .inl (cI, 5, .inl mFat)), (mfd, .inl (cI, 7, .inl mFfd)), (mhd, .inl (cI, 7, .inl mFhd)), (rd, .inl (cI, 5, .inl kr))] H → va_D A [(h0, .inr (1, [.ref ln, .int md, .int mt, .int mr, .int mg, .ref mat, .ref mfd, .ref mhd])), (ln, .inr (0, [.int lpe, .int ltk, .ref lho, .ref lli, .ref lki, .ref lfd, .ref lfr, .ref lto, .ref lse, .ref lhl])), (lto, .inl (cI, 7, .inl lFto)), (lfr, .inl (cI, 7, .inl lFfr)), (lki, .inl (cI, 5, .inl lFki)), (mat, .inl (cI, 5, .inl mFat)), (mfd, .inl (cI, 7, .inl mFfd)), (mhd, .inl (cI, 7, .inl mFhd)), (rd, .inl (cI, 5, .inl kr))] → va_S A s.heap H locs → lv_has ls 4 [(0, .ref h0), (1, .ref rd), (2, .int y2)] → W p l e R s m args below meth c H locs 0 0 Q (F0 m 20 ls []) := by
          intro fu
          induction fu with
          | zero => intro y2 kr H locs ls hmu; exact absurd hmu (Nat.not_lt_zero _)
          | succ fu ih =>
            intro y2 kr H locs ls hmu h_y2 hP hD hS hl
            obtain ⟨h_y2a, h_y2b⟩ := h_y2
            have ih_5 := ih
            clear ih
            refine lv_iload_n hx hb dX1_findRides_20 rfl (lv_at hl 2 rfl) ?_
            refine lv_aload_n hx hb dX1_findRides_21 rfl (lv_at hl 0 rfl) ?_
            refine va_get (D := D) (ci := 1) (v := .int mt) (C := RX1) (T := TX1) (N := 8) hx hb hts iX1 hown hK hP 0 rfl rfl 2 (by decide) (hts (.fieldLink RX1 15 "PunchedTicket$Moment" "tickets" "I") (List.mem_of_getElem? (i := 1) rfl)) (fun _ h9 => h9) rfl dX1_findRides_22 ?_
            refine lv_icmp_ge (tgt := 86) hx hb dX1_findRides_25 (by decide) (fun c_6 => ?_) (fun c_6 => ?_)
            · have tc_6 := b_le rfl rfl c_6
              exact ret_v (post := (fun (u : (Nat → Int32)) => True)) (W1 := (fun u => [(h0, .inr (1, [.ref ln, .int md, .int mt, .int mr, .int mg, .ref mat, .ref mfd, .ref mhd])), (ln, .inr (0, [.int lpe, .int ltk, .ref lho, .ref lli, .ref lki, .ref lfd, .ref lfr, .ref lto, .ref lse, .ref lhl])), (lto, .inl (cI, 7, .inl lFto)), (lfr, .inl (cI, 7, .inl lFfr)), (lki, .inl (cI, 5, .inl lFki)), (mat, .inl (cI, 5, .inl mFat)), (mfd, .inl (cI, 7, .inl mFfd)), (mhd, .inl (cI, 7, .inl mFhd)), (rd, .inl (cI, 5, .inl u))])) kr hx hb hr hlocks hQ hK hP hD hS ⟨by decide, by decide⟩ dX1_findRides_86 trivial
            · have tc_6 := b_nle rfl rfl c_6
              refine lv_aload_n hx hb dX1_findRides_28 rfl (lv_at hl 0 rfl) ?_
              refine va_get (D := D) (ci := 1) (v := .ref mhd) (C := RX1) (T := TX1) (N := 8) hx hb hts iX1 hown hK hP 0 rfl rfl 7 (by decide) (hts (.fieldLink RX1 31 "PunchedTicket$Moment" "holder" "[I") (List.mem_of_getElem? (i := 2) rfl)) (fun _ h9 => h9) rfl dX1_findRides_29 ?_
              refine lv_iload_n hx hb dX1_findRides_32 rfl (lv_at hl 2 rfl) ?_
              refine va_iald hx hb hK hP 7 0 rfl rfl (vp_in_iff.mpr ⟨by omega, by omega⟩) dX1_findRides_33 ?_
              refine lv_topi (fun v_7 ev_7 => ?_)
              refine lv_istore_n (lv' := [(3, .int v_7), (0, .ref h0), (1, .ref rd), (2, .int y2)]) hx hb dX1_findRides_34 rfl hl (by decide) rfl (fun ls hl => ?_)
              refine lv_aload_n hx hb dX1_findRides_35 rfl (lv_at hl 1 rfl) ?_
              refine va_get (D := D) (ci := 1) (v := .ref mfd) (C := RX1) (T := TX1) (N := 8) hx hb hts iX1 hown hK hP 0 rfl rfl 6 (by decide) (hts (.fieldLink RX1 28 "PunchedTicket$Moment" "forDay" "[I") (List.mem_of_getElem? (i := 3) rfl)) (fun _ h9 => h9) rfl dX1_findRides_36 ?_
              refine lv_iload_n hx hb dX1_findRides_39 rfl (lv_at hl 3 rfl) ?_
              refine va_iald hx hb hK hP 6 0 rfl rfl (vp_in_iff.mpr ⟨by omega, by omega⟩) dX1_findRides_40 ?_
              refine lv_topi (fun v_8 ev_8 => ?_)
              refine lv_aload_n hx hb dX1_findRides_41 rfl (lv_at hl 1 rfl) ?_
              refine va_get (D := D) (ci := 1) (v := .int md) (C := RX1) (T := TX1) (N := 8) hx hb hts iX1 hown hK hP 0 rfl rfl 1 (by decide) (hts (.fieldLink RX1 9 "PunchedTicket$Moment" "day" "I") (List.mem_of_getElem? (i := 4) rfl)) (fun _ h9 => h9) rfl dX1_findRides_42 ?_
              refine lv_icmp_ne (tgt := 80) hx hb dX1_findRides_45 (by decide) (fun c_9 => ?_) (fun c_9 => ?_)
              · have tc_9 := b_ne rfl rfl c_9
                obtain ⟨v_10, ev_10⟩ : ∃ z : Int32, z = y2 + 1 := ⟨_, rfl⟩
                have tv_10 : v_10.toInt = y2.toInt + 1 := by rw [ev_10]; exact ti_add (x := y2) (y := 1) (show -2147483648 ≤ y2.toInt + 1 by omega) (show y2.toInt + 1 < 2147483648 by omega)
                refine lv_iinc (v := v_10) (lv' := [(2, .int v_10), (3, .int v_7), (0, .ref h0), (1, .ref rd)]) hx hb dX1_findRides_80 hl (k := 3) rfl (by rw [ev_10]; rfl) (by decide) rfl (fun ls hl => ?_)
                refine lv_goto (tgt := 20) hx hb dX1_findRides_83 (by decide) ?_
                exact ih_5 v_10 kr _ _ _ (show (7 - v_10.toInt).toNat < fu by omega) (show 0 ≤ v_10.toInt ∧ v_10.toInt ≤ 7 by omega) hP hD hS (lv_sub hl [2, 3, 0] rfl)
              · have tc_9 := b_eq rfl rfl c_9
                refine lv_aload_n hx hb dX1_findRides_48 rfl (lv_at hl 1 rfl) ?_
                refine va_get (D := D) (ci := 1) (v := .ref ln) (C := RX1) (T := TX1) (N := 8) hx hb hts iX1 hown hK hP 0 rfl rfl 0 (by decide) (hts (.fieldLink RX1 34 "PunchedTicket$Moment" "line" "LPunchedTicket$Line;") (List.mem_of_getElem? (i := 5) rfl)) (fun _ h9 => h9) rfl dX1_findRides_49 ?_
                refine lv_iload_n hx hb dX1_findRides_52 rfl (lv_at hl 0 rfl) ?_
                refine cV_i (As := [.int v_7]) (rest := []) ⟨hx, hb, hml, hown, hts⟩ (c_X0_hasPerson l D cI cZ cM ln v_7 lpe ltk lho lli lki lfd lfr lto lse lhl _ ) (cwV 1 hts gX1_findRides_X0_hasPerson rfl rfl rfl (by decide +kernel) ⟨by rw [hR]; decide, by rw [hR]; decide⟩) hK hP hD hS hA [1] [0, 2, 3, 4, 5, 6, 7, 8] rfl rfl (by decide) (by decide) (by decide) rfl 1 rfl hl.1 rfl rfl (Nat.le_of_ble_eq_true rfl) dX1_findRides_53 ⟨by rw [hR]; decide, by rw [hR]; decide⟩ (fun r_11 u_12 H locs hw hP hD hS => ?_)
                have hP : va_P D vwCl [(h0, .inr (1, [.ref ln, .int md, .int mt, .int mr, .int mg, .ref mat, .ref mfd, .ref mhd])), (ln, .inr (0, [.int lpe, .int ltk, .ref lho, .ref lli, .ref lki, .ref lfd, .ref lfr, .ref lto, .ref lse, .ref lhl])), (lto, .inl (cI, 7, .inl lFto)), (lfr, .inl (cI, 7, .inl lFfr)), (lki, .inl (cI, 5, .inl lFki)), (mat, .inl (cI, 5, .inl mFat)), (mfd, .inl (cI, 7, .inl mFfd)), (mhd, .inl (cI, 7, .inl mFhd)), (rd, .inl (cI, 5, .inl kr))] H := hP.sub [0, 8, 1, 2, 3, 4, 5, 6, 7] rfl
                have hD : va_D A [(h0, .inr (1, [.ref ln, .int md, .int mt, .int mr, .int mg, .ref mat, .ref mfd, .ref mhd])), (ln, .inr (0, [.int lpe, .int ltk, .ref lho, .ref lli, .ref lki, .ref lfd, .ref lfr, .ref lto, .ref lse, .ref lhl])), (lto, .inl (cI, 7, .inl lFto)), (lfr, .inl (cI, 7, .inl lFfr)), (lki, .inl (cI, 5, .inl lFki)), (mat, .inl (cI, 5, .inl mFat)), (mfd, .inl (cI, 7, .inl mFfd)), (mhd, .inl (cI, 7, .inl mFhd)), (rd, .inl (cI, 5, .inl kr))] := hD.sub [0, 8, 1, 2, 3, 4, 5, 6, 7] (by decide) rfl
                refine W.widen (k := 0) (n := 0) (Nat.le_refl _) (Nat.le_refl _) ?_
                have hw : (r_11.toInt = 1 ∧ 0 ≤ v_7.toInt ∧ v_7.toInt < lpe.toInt) ∨ (r_11.toInt = 0 ∧ (v_7.toInt < 0 ∨ lpe.toInt ≤ v_7.toInt)) := hw
                have hw_13 := hw
                refine lv_if_eq (tgt := 80) hx hb dX1_findRides_56 (by decide) (fun c_14 => ?_) (fun c_14 => ?_)
                · have tc_14 := b_eq rfl (show (0 : Int32).toInt = 0 by decide) c_14
                  obtain ⟨v_15, ev_15⟩ : ∃ z : Int32, z = y2 + 1 := ⟨_, rfl⟩
                  have tv_15 : v_15.toInt = y2.toInt + 1 := by rw [ev_15]; exact ti_add (x := y2) (y := 1) (show -2147483648 ≤ y2.toInt + 1 by omega) (show y2.toInt + 1 < 2147483648 by omega)
                  refine lv_iinc (v := v_15) (lv' := [(2, .int v_15), (3, .int v_7), (0, .ref h0), (1, .ref rd)]) hx hb dX1_findRides_80 hl (k := 3) rfl (by rw [ev_15]; rfl) (by decide) rfl (fun ls hl => ?_)
                  refine lv_goto (tgt := 20) hx hb dX1_findRides_83 (by decide) ?_
                  exact ih_5 v_15 kr _ _ _ (show (7 - v_15.toInt).toNat < fu by omega) (show 0 ≤ v_15.toInt ∧ v_15.toInt ≤ 7 by omega) hP hD hS (lv_sub hl [2, 3, 0] rfl)
                · have tc_14 := b_ne rfl (show (0 : Int32).toInt = 0 by decide) c_14
                  refine lv_aload_n hx hb dX1_findRides_59 rfl (lv_at hl 2 rfl) ?_
                  refine lv_iload_n hx hb dX1_findRides_60 rfl (lv_at hl 0 rfl) ?_
                  refine va_iald hx hb hK hP 8 0 rfl rfl (vp_in_iff.mpr ⟨by omega, by omega⟩) dX1_findRides_61 ?_
                  refine lv_topi (fun v_16 ev_16 => ?_)
                  refine lv_bipush (v := (-9)) hx hb dX1_findRides_62 (by decide) ?_
                  refine lv_icmp_ne (tgt := 80) hx hb dX1_findRides_64 (by decide) (fun c_17 => ?_) (fun c_17 => ?_)
                  · have tc_17 := b_ne rfl (show ((-9) : Int32).toInt = -9 by decide) c_17
                    obtain ⟨v_18, ev_18⟩ : ∃ z : Int32, z = y2 + 1 := ⟨_, rfl⟩
                    have tv_18 : v_18.toInt = y2.toInt + 1 := by rw [ev_18]; exact ti_add (x := y2) (y := 1) (show -2147483648 ≤ y2.toInt + 1 by omega) (show y2.toInt + 1 < 2147483648 by omega)
                    refine lv_iinc (v := v_18) (lv' := [(2, .int v_18), (3, .int v_7), (0, .ref h0), (1, .ref rd)]) hx hb dX1_findRides_80 hl (k := 3) rfl (by rw [ev_18]; rfl) (by decide) rfl (fun ls hl => ?_)
                    refine lv_goto (tgt := 20) hx hb dX1_findRides_83 (by decide) ?_
                    exact ih_5 v_18 kr _ _ _ (show (7 - v_18.toInt).toNat < fu by omega) (show 0 ≤ v_18.toInt ∧ v_18.toInt ≤ 7 by omega) hP hD hS (lv_sub hl [2, 3, 0] rfl)
                  · have tc_17 := b_eq rfl (show ((-9) : Int32).toInt = -9 by decide) c_17
                    refine lv_aload_n hx hb dX1_findRides_67 rfl (lv_at hl 1 rfl) ?_
                    refine lv_iload_n hx hb dX1_findRides_68 rfl (lv_at hl 3 rfl) ?_
                    refine lv_iload_n hx hb dX1_findRides_69 rfl (lv_at hl 0 rfl) ?_
                    refine cV_i (As := [.int y2, .int v_7]) (rest := []) ⟨hx, hb, hml, hown, hts⟩ (c_X1_canTake l D cI cZ cM h0 y2 v_7 ln md mt mr mg mat mfd mhd lpe ltk lho lli lki lfd lfr lto lse lhl lFto lFfr lFki mFat _ (show 0 ≤ y2.toInt ∧ y2.toInt ≤ 6 by omega) (show 0 ≤ v_7.toInt ∧ v_7.toInt ≤ 4 by omega)) (cwV 2 hts gX1_findRides_X1_canTake rfl rfl rfl (by decide +kernel) ⟨by rw [hR]; decide, by rw [hR]; decide⟩) hK hP hD hS hA [0, 1, 2, 3, 4, 5] [6, 7, 8] rfl rfl (by decide) (by decide) (by decide) rfl 0 rfl hl.1 rfl rfl (Nat.le_of_ble_eq_true rfl) dX1_findRides_70 ⟨by rw [hR]; decide, by rw [hR]; decide⟩ (fun r_19 u_20 H locs hw hP hD hS => ?_)
                    have hP : va_P D vwCl [(h0, .inr (1, [.ref ln, .int md, .int mt, .int mr, .int mg, .ref mat, .ref mfd, .ref mhd])), (ln, .inr (0, [.int lpe, .int ltk, .ref lho, .ref lli, .ref lki, .ref lfd, .ref lfr, .ref lto, .ref lse, .ref lhl])), (lto, .inl (cI, 7, .inl lFto)), (lfr, .inl (cI, 7, .inl lFfr)), (lki, .inl (cI, 5, .inl lFki)), (mat, .inl (cI, 5, .inl mFat)), (mfd, .inl (cI, 7, .inl mFfd)), (mhd, .inl (cI, 7, .inl mFhd)), (rd, .inl (cI, 5, .inl kr))] H := hP.sub [3, 4, 5, 6, 7, 8, 0, 1, 2] rfl
                    have hD : va_D A [(h0, .inr (1, [.ref ln, .int md, .int mt, .int mr, .int mg, .ref mat, .ref mfd, .ref mhd])), (ln, .inr (0, [.int lpe, .int ltk, .ref lho, .ref lli, .ref lki, .ref lfd, .ref lfr, .ref lto, .ref lse, .ref lhl])), (lto, .inl (cI, 7, .inl lFto)), (lfr, .inl (cI, 7, .inl lFfr)), (lki, .inl (cI, 5, .inl lFki)), (mat, .inl (cI, 5, .inl mFat)), (mfd, .inl (cI, 7, .inl mFfd)), (mhd, .inl (cI, 7, .inl mFhd)), (rd, .inl (cI, 5, .inl kr))] := hD.sub [3, 4, 5, 6, 7, 8, 0, 1, 2] (by decide) rfl
                    refine W.widen (k := 0) (n := 0) (Nat.le_refl _) (Nat.le_refl _) ?_
                    have hw : (r_19.toInt = 0 ∨ r_19.toInt = 1) := hw
                    have hw_21 := hw
                    refine lv_if_eq (tgt := 80) hx hb dX1_findRides_73 (by decide) (fun c_22 => ?_) (fun c_22 => ?_)
                    · have tc_22 := b_eq rfl (show (0 : Int32).toInt = 0 by decide) c_22
                      obtain ⟨v_23, ev_23⟩ : ∃ z : Int32, z = y2 + 1 := ⟨_, rfl⟩
                      have tv_23 : v_23.toInt = y2.toInt + 1 := by rw [ev_23]; exact ti_add (x := y2) (y := 1) (show -2147483648 ≤ y2.toInt + 1 by omega) (show y2.toInt + 1 < 2147483648 by omega)
                      refine lv_iinc (v := v_23) (lv' := [(2, .int v_23), (3, .int v_7), (0, .ref h0), (1, .ref rd)]) hx hb dX1_findRides_80 hl (k := 3) rfl (by rw [ev_23]; rfl) (by decide) rfl (fun ls hl => ?_)
                      refine lv_goto (tgt := 20) hx hb dX1_findRides_83 (by decide) ?_
                      exact ih_5 v_23 kr _ _ _ (show (7 - v_23.toInt).toNat < fu by omega) (show 0 ≤ v_23.toInt ∧ v_23.toInt ≤ 7 by omega) hP hD hS (lv_sub hl [2, 3, 0] rfl)
                    · have tc_22 := b_ne rfl (show (0 : Int32).toInt = 0 by decide) c_22
                      refine lv_aload_n hx hb dX1_findRides_76 rfl (lv_at hl 2 rfl) ?_
                      refine lv_iload_n hx hb dX1_findRides_77 rfl (lv_at hl 0 rfl) ?_
                      refine lv_iload_n hx hb dX1_findRides_78 rfl (lv_at hl 3 rfl) ?_
                      refine va_iast hx hb hK hP hD hS 8 0 rfl rfl (vp_in_iff.mpr ⟨by omega, by omega⟩) dX1_findRides_79 (fun H locs hP hD hS => ?_)
                      obtain ⟨f_24, ef_24⟩ : ∃ g : Nat → Int32, upd kr (v_7 : Int32).toNatClampNeg y2 = g := ⟨_, rfl⟩
                      rw [ef_24] at hP hD
                      have hP : va_P D vwCl [(h0, .inr (1, [.ref ln, .int md, .int mt, .int mr, .int mg, .ref mat, .ref mfd, .ref mhd])), (ln, .inr (0, [.int lpe, .int ltk, .ref lho, .ref lli, .ref lki, .ref lfd, .ref lfr, .ref lto, .ref lse, .ref lhl])), (lto, .inl (cI, 7, .inl lFto)), (lfr, .inl (cI, 7, .inl lFfr)), (lki, .inl (cI, 5, .inl lFki)), (mat, .inl (cI, 5, .inl mFat)), (mfd, .inl (cI, 7, .inl mFfd)), (mhd, .inl (cI, 7, .inl mFhd)), (rd, .inl (cI, 5, .inl f_24))] H := hP
                      have hD : va_D A [(h0, .inr (1, [.ref ln, .int md, .int mt, .int mr, .int mg, .ref mat, .ref mfd, .ref mhd])), (ln, .inr (0, [.int lpe, .int ltk, .ref lho, .ref lli, .ref lki, .ref lfd, .ref lfr, .ref lto, .ref lse, .ref lhl])), (lto, .inl (cI, 7, .inl lFto)), (lfr, .inl (cI, 7, .inl lFfr)), (lki, .inl (cI, 5, .inl lFki)), (mat, .inl (cI, 5, .inl mFat)), (mfd, .inl (cI, 7, .inl mFfd)), (mhd, .inl (cI, 7, .inl mFhd)), (rd, .inl (cI, 5, .inl f_24))] := hD
                      obtain ⟨v_25, ev_25⟩ : ∃ z : Int32, z = y2 + 1 := ⟨_, rfl⟩
                      have tv_25 : v_25.toInt = y2.toInt + 1 := by rw [ev_25]; exact ti_add (x := y2) (y := 1) (show -2147483648 ≤ y2.toInt + 1 by omega) (show y2.toInt + 1 < 2147483648 by omega)
                      refine lv_iinc (v := v_25) (lv' := [(2, .int v_25), (3, .int v_7), (0, .ref h0), (1, .ref rd)]) hx hb dX1_findRides_80 hl (k := 3) rfl (by rw [ev_25]; rfl) (by decide) rfl (fun ls hl => ?_)
                      refine lv_goto (tgt := 20) hx hb dX1_findRides_83 (by decide) ?_
                      exact ih_5 v_25 f_24 _ _ _ (show (7 - v_25.toInt).toNat < fu by omega) (show 0 ≤ v_25.toInt ∧ v_25.toInt ≤ 7 by omega) hP hD hS (lv_sub hl [2, 3, 0] rfl)
        exact LOOP_4 _ 0 gr _ _ _ (Nat.lt_succ_self _) (by decide) hP hD hS (lv_sub hl [1, 2, 0] rfl)
      · have tc_3 := b_nle (show (5 : Int32).toInt = 5 by decide) rfl c_3
        refine lv_aload_n hx hb dX1_findRides_7 rfl (lv_at hl 1 rfl) ?_
        refine lv_iload_n hx hb dX1_findRides_8 rfl (lv_at hl 2 rfl) ?_
        refine lv_bipush (v := (-9)) hx hb dX1_findRides_9 (by decide) ?_
        refine va_iast hx hb hK hP hD hS 8 0 rfl rfl (vp_in_iff.mpr ⟨by omega, by omega⟩) dX1_findRides_11 (fun H locs hP hD hS => ?_)
        obtain ⟨f_26, ef_26⟩ : ∃ g : Nat → Int32, upd gr (x2 : Int32).toNatClampNeg (-9) = g := ⟨_, rfl⟩
        rw [ef_26] at hP hD
        have hP : va_P D vwCl [(h0, .inr (1, [.ref ln, .int md, .int mt, .int mr, .int mg, .ref mat, .ref mfd, .ref mhd])), (ln, .inr (0, [.int lpe, .int ltk, .ref lho, .ref lli, .ref lki, .ref lfd, .ref lfr, .ref lto, .ref lse, .ref lhl])), (lto, .inl (cI, 7, .inl lFto)), (lfr, .inl (cI, 7, .inl lFfr)), (lki, .inl (cI, 5, .inl lFki)), (mat, .inl (cI, 5, .inl mFat)), (mfd, .inl (cI, 7, .inl mFfd)), (mhd, .inl (cI, 7, .inl mFhd)), (rd, .inl (cI, 5, .inl f_26))] H := hP
        have hD : va_D A [(h0, .inr (1, [.ref ln, .int md, .int mt, .int mr, .int mg, .ref mat, .ref mfd, .ref mhd])), (ln, .inr (0, [.int lpe, .int ltk, .ref lho, .ref lli, .ref lki, .ref lfd, .ref lfr, .ref lto, .ref lse, .ref lhl])), (lto, .inl (cI, 7, .inl lFto)), (lfr, .inl (cI, 7, .inl lFfr)), (lki, .inl (cI, 5, .inl lFki)), (mat, .inl (cI, 5, .inl mFat)), (mfd, .inl (cI, 7, .inl mFfd)), (mhd, .inl (cI, 7, .inl mFhd)), (rd, .inl (cI, 5, .inl f_26))] := hD
        obtain ⟨v_27, ev_27⟩ : ∃ z : Int32, z = x2 + 1 := ⟨_, rfl⟩
        have tv_27 : v_27.toInt = x2.toInt + 1 := by rw [ev_27]; exact ti_add (x := x2) (y := 1) (show -2147483648 ≤ x2.toInt + 1 by omega) (show x2.toInt + 1 < 2147483648 by omega)
        refine lv_iinc (v := v_27) (lv' := [(2, .int v_27), (0, .ref h0), (1, .ref rd)]) hx hb dX1_findRides_12 hl (k := 2) rfl (by rw [ev_27]; rfl) (by decide) rfl (fun ls hl => ?_)
        refine lv_goto (tgt := 2) hx hb dX1_findRides_15 (by decide) ?_
        exact ih_2 v_27 f_26 _ _ _ (show (5 - v_27.toInt).toNat < fu by omega) (show 0 ≤ v_27.toInt ∧ v_27.toInt ≤ 5 by omega) hP hD hS (lv_sub hl [1, 2, 0] rfl)
  exact LOOP_1 _ 0 Frd _ _ _ (Nat.lt_succ_self _) (by decide) hP hD hS (lv_sub hl [1, 2, 0] rfl)

set_option maxHeartbeats 600000 in
set_option maxRecDepth 100000 in
theorem c_X1_useTicket (l : Launch) (D : va_G) (cI cZ cM : ClassId) (h0 : Nat) (n : Int32) (k : Int32) (ln : Nat) (md : Int32) (mt : Int32) (mr : Int32) (mg : Int32) (mat : Nat) (mfd : Nat) (mhd : Nat) (lpe : Int32) (ltk : Int32) (lho : Nat) (lli : Nat) (lki : Nat) (lfd : Nat) (lfr : Nat) (lto : Nat) (lse : Nat) (lhl : Nat) (lFki : Nat → Int32) (mFfd : Nat → Int32) (mFhd : Nat → Int32) (sz : Nat) (h_n : 0 ≤ n.toInt ∧ n.toInt ≤ 6) (h_k : 0 ≤ k.toInt ∧ k.toInt ≤ 4) (h_md : 0 ≤ md.toInt ∧ md.toInt ≤ 9) : Cv l yX1_useTicket wsX1_useTicket ({ frames := 1, cells := 0, slots := 0, locals := 21 } : Room) D cI cZ cM [.ref h0, .int n, .int k] [(h0, .inr (1, [.ref ln, .int md, .int mt, .int mr, .int mg, .ref mat, .ref mfd, .ref mhd])), (ln, .inr (0, [.int lpe, .int ltk, .ref lho, .ref lli, .ref lki, .ref lfd, .ref lfr, .ref lto, .ref lse, .ref lhl])), (lki, .inl (cI, 5, .inl lFki)), (mfd, .inl (cI, 7, .inl mFfd)), (mhd, .inl (cI, 7, .inl mFhd))] sz (fun (u : Int32 × Int32 × (Nat → Int32) × (Nat → Int32)) => True) (fun u => [(h0, .inr (1, [.ref ln, .int md, .int mt, .int u.1, .int u.2.1, .ref mat, .ref mfd, .ref mhd])), (ln, .inr (0, [.int lpe, .int ltk, .ref lho, .ref lli, .ref lki, .ref lfd, .ref lfr, .ref lto, .ref lse, .ref lhl])), (lki, .inl (cI, 5, .inl lFki)), (mfd, .inl (cI, 7, .inl u.2.2.1)), (mhd, .inl (cI, 7, .inl u.2.2.2))]) 0 0 := by
  refine begins (l := l) (y := yX1_useTicket) (ws := wsX1_useTicket) (av := [.ref h0, .int n, .int k]) (Qc := fun A => va_Qv (fun (u : Int32 × Int32 × (Nat → Int32) × (Nat → Int32)) => True) (fun u => Wd D cI cZ cM A ((fun u => [(h0, .inr (1, [.ref ln, .int md, .int mt, .int u.1, .int u.2.1, .ref mat, .ref mfd, .ref mhd])), (ln, .inr (0, [.int lpe, .int ltk, .ref lho, .ref lli, .ref lki, .ref lfd, .ref lfr, .ref lto, .ref lse, .ref lhl])), (lki, .inl (cI, 5, .inl lFki)), (mfd, .inl (cI, 7, .inl u.2.2.1)), (mhd, .inl (cI, 7, .inl u.2.2.2))]) u)) A) cX1_useTicket 4 none (by decide) rfl (Nat.le_of_ble_eq_true rfl) ?_
  intro p e s m args below meth c R Q A ls hBd hR hQ hA hS hK hP hD hl
  obtain ⟨hx, hb, hr, hts, hown, hlocks, hin, hml⟩ := hBd
  have hl : lv_has ls 4 [(0, .ref h0), (1, .int n), (2, .int k)] := hl
  have iX1 : ∀ w ∈ wsX10, w ∈ wsX1_useTicket := fun _ h => List.mem_cons_of_mem _ (List.mem_append_left _ (List.mem_append_right _ h))
  have iX0 : ∀ w ∈ wsX00, w ∈ wsX1_useTicket := fun _ h => List.mem_cons_of_mem _ (List.mem_append_right _ h)
  obtain ⟨h_na, h_nb⟩ := h_n
  obtain ⟨h_ka, h_kb⟩ := h_k
  obtain ⟨h_mda, h_mdb⟩ := h_md
  refine lv_aload_n hx hb dX1_useTicket_0 rfl (lv_at hl 0 rfl) ?_
  refine va_get (D := D) (ci := 1) (v := .ref ln) (C := RX1) (T := TX1) (N := 8) hx hb hts iX1 hown hK hP 0 rfl rfl 0 (by decide) (hts (.fieldLink RX1 34 "PunchedTicket$Moment" "line" "LPunchedTicket$Line;") (List.mem_of_getElem? (i := 1) rfl)) (fun _ h9 => h9) rfl dX1_useTicket_1 ?_
  refine va_get (D := D) (ci := 0) (v := .ref lki) (C := RX0) (T := TX0) (N := 10) hx hb hts iX0 hown hK hP 1 rfl rfl 4 (by decide) (hts (.fieldLink RX1 78 "PunchedTicket$Line" "kind" "[I") (List.mem_of_getElem? (i := 2) rfl)) (fun _ h9 => h9) rfl dX1_useTicket_4 ?_
  refine lv_iload_n hx hb dX1_useTicket_7 rfl (lv_at hl 2 rfl) ?_
  refine va_iald hx hb hK hP 2 0 rfl rfl (vp_in_iff.mpr ⟨by omega, by omega⟩) dX1_useTicket_8 ?_
  refine lv_topi (fun v_1 ev_1 => ?_)
  refine lv_istore_n (lv' := [(3, .int v_1), (0, .ref h0), (1, .int n), (2, .int k)]) hx hb dX1_useTicket_9 rfl hl (by decide) rfl (fun ls hl => ?_)
  refine lv_iload_n hx hb dX1_useTicket_10 rfl (lv_at hl 0 rfl) ?_
  refine lv_iconst (v := 1) hx hb dX1_useTicket_11 (by decide) ?_
  refine lv_icmp_ne (tgt := 61) hx hb dX1_useTicket_12 (by decide) (fun c_2 => ?_) (fun c_2 => ?_)
  · have tc_2 := b_ne rfl (show (1 : Int32).toInt = 1 by decide) c_2
    refine lv_iload_n hx hb dX1_useTicket_61 rfl (lv_at hl 0 rfl) ?_
    refine lv_iconst (v := 2) hx hb dX1_useTicket_62 (by decide) ?_
    refine lv_icmp_ne (tgt := 132) hx hb dX1_useTicket_63 (by decide) (fun c_3 => ?_) (fun c_3 => ?_)
    · have tc_3 := b_ne rfl (show (2 : Int32).toInt = 2 by decide) c_3
      refine lv_aload_n hx hb dX1_useTicket_132 rfl (lv_at hl 1 rfl) ?_
      refine lv_dup hx hb dX1_useTicket_133 rfl ?_
      refine va_get (D := D) (ci := 1) (v := .int mg) (C := RX1) (T := TX1) (N := 8) hx hb hts iX1 hown hK hP 0 rfl rfl 4 (by decide) (hts (.fieldLink RX1 21 "PunchedTicket$Moment" "gone" "I") (List.mem_of_getElem? (i := 8) rfl)) (fun _ h9 => h9) rfl dX1_useTicket_134 ?_
      refine lv_iconst (v := 1) hx hb dX1_useTicket_137 (by decide) ?_
      refine lv_iload_n hx hb dX1_useTicket_138 rfl (lv_at hl 2 rfl) ?_
      refine lv_ishl hx hb dX1_useTicket_139 ?_
      refine lv_topi (fun v_4 ev_4 => ?_)
      refine lv_ior hx hb dX1_useTicket_140 ?_
      refine lv_topi (fun v_5 ev_5 => ?_)
      refine va_put (D := D) (ci := 1) (v := .int v_5) (ty := .int) (C := RX1) (T := TX1) (N := 8) hx hb hts iX1 tyX1 tyX1_ok nmX1 hown hK hP hD hS 0 rfl rfl 4 (by decide) (hts (.fieldLink RX1 21 "PunchedTicket$Moment" "gone" "I") (List.mem_of_getElem? (i := 8) rfl)) (fun _ h9 => h9) rfl (by decide +kernel) rfl rfl (Nat.le_of_ble_eq_true rfl) dX1_useTicket_141 (fun H locs hP hD hS => ?_)
      have hP : va_P D vwCl [(h0, .inr (1, [.ref ln, .int md, .int mt, .int mr, .int v_5, .ref mat, .ref mfd, .ref mhd])), (ln, .inr (0, [.int lpe, .int ltk, .ref lho, .ref lli, .ref lki, .ref lfd, .ref lfr, .ref lto, .ref lse, .ref lhl])), (lki, .inl (cI, 5, .inl lFki)), (mfd, .inl (cI, 7, .inl mFfd)), (mhd, .inl (cI, 7, .inl mFhd))] H := hP
      have hD : va_D A [(h0, .inr (1, [.ref ln, .int md, .int mt, .int mr, .int v_5, .ref mat, .ref mfd, .ref mhd])), (ln, .inr (0, [.int lpe, .int ltk, .ref lho, .ref lli, .ref lki, .ref lfd, .ref lfr, .ref lto, .ref lse, .ref lhl])), (lki, .inl (cI, 5, .inl lFki)), (mfd, .inl (cI, 7, .inl mFfd)), (mhd, .inl (cI, 7, .inl mFhd))] := hD
      exact ret_v (post := (fun (u : Int32 × Int32 × (Nat → Int32) × (Nat → Int32)) => True)) (W1 := (fun u => [(h0, .inr (1, [.ref ln, .int md, .int mt, .int u.1, .int u.2.1, .ref mat, .ref mfd, .ref mhd])), (ln, .inr (0, [.int lpe, .int ltk, .ref lho, .ref lli, .ref lki, .ref lfd, .ref lfr, .ref lto, .ref lse, .ref lhl])), (lki, .inl (cI, 5, .inl lFki)), (mfd, .inl (cI, 7, .inl u.2.2.1)), (mhd, .inl (cI, 7, .inl u.2.2.2))])) (mr, v_5, mFfd, mFhd) hx hb hr hlocks hQ hK hP hD hS ⟨by decide, by decide⟩ dX1_useTicket_144 trivial
    · have tc_3 := b_eq rfl (show (2 : Int32).toInt = 2 by decide) c_3
      refine lv_aload_n hx hb dX1_useTicket_66 rfl (lv_at hl 1 rfl) ?_
      refine va_get (D := D) (ci := 1) (v := .int md) (C := RX1) (T := TX1) (N := 8) hx hb hts iX1 hown hK hP 0 rfl rfl 1 (by decide) (hts (.fieldLink RX1 9 "PunchedTicket$Moment" "day" "I") (List.mem_of_getElem? (i := 3) rfl)) (fun _ h9 => h9) rfl dX1_useTicket_67 ?_
      refine lv_iconst (v := 3) hx hb dX1_useTicket_70 (by decide) ?_
      refine lv_iadd hx hb dX1_useTicket_71 ?_
      refine lv_topi (fun v_6 ev_6 => ?_)
      have tv_6 : v_6.toInt = md.toInt + (3 : Int) := by rw [ev_6]; exact ti_add (x := md) (y := 3) (show -2147483648 ≤ md.toInt + (3 : Int) by omega) (show md.toInt + (3 : Int) < 2147483648 by omega)
      refine lv_bipush (v := 10) hx hb dX1_useTicket_72 (by decide) ?_
      refine lv_icmp_ge (tgt := 132) hx hb dX1_useTicket_74 (by decide) (fun c_7 => ?_) (fun c_7 => ?_)
      · have tc_7 := b_le (show (10 : Int32).toInt = 10 by decide) rfl c_7
        refine lv_aload_n hx hb dX1_useTicket_132 rfl (lv_at hl 1 rfl) ?_
        refine lv_dup hx hb dX1_useTicket_133 rfl ?_
        refine va_get (D := D) (ci := 1) (v := .int mg) (C := RX1) (T := TX1) (N := 8) hx hb hts iX1 hown hK hP 0 rfl rfl 4 (by decide) (hts (.fieldLink RX1 21 "PunchedTicket$Moment" "gone" "I") (List.mem_of_getElem? (i := 8) rfl)) (fun _ h9 => h9) rfl dX1_useTicket_134 ?_
        refine lv_iconst (v := 1) hx hb dX1_useTicket_137 (by decide) ?_
        refine lv_iload_n hx hb dX1_useTicket_138 rfl (lv_at hl 2 rfl) ?_
        refine lv_ishl hx hb dX1_useTicket_139 ?_
        refine lv_topi (fun v_8 ev_8 => ?_)
        refine lv_ior hx hb dX1_useTicket_140 ?_
        refine lv_topi (fun v_9 ev_9 => ?_)
        refine va_put (D := D) (ci := 1) (v := .int v_9) (ty := .int) (C := RX1) (T := TX1) (N := 8) hx hb hts iX1 tyX1 tyX1_ok nmX1 hown hK hP hD hS 0 rfl rfl 4 (by decide) (hts (.fieldLink RX1 21 "PunchedTicket$Moment" "gone" "I") (List.mem_of_getElem? (i := 8) rfl)) (fun _ h9 => h9) rfl (by decide +kernel) rfl rfl (Nat.le_of_ble_eq_true rfl) dX1_useTicket_141 (fun H locs hP hD hS => ?_)
        have hP : va_P D vwCl [(h0, .inr (1, [.ref ln, .int md, .int mt, .int mr, .int v_9, .ref mat, .ref mfd, .ref mhd])), (ln, .inr (0, [.int lpe, .int ltk, .ref lho, .ref lli, .ref lki, .ref lfd, .ref lfr, .ref lto, .ref lse, .ref lhl])), (lki, .inl (cI, 5, .inl lFki)), (mfd, .inl (cI, 7, .inl mFfd)), (mhd, .inl (cI, 7, .inl mFhd))] H := hP
        have hD : va_D A [(h0, .inr (1, [.ref ln, .int md, .int mt, .int mr, .int v_9, .ref mat, .ref mfd, .ref mhd])), (ln, .inr (0, [.int lpe, .int ltk, .ref lho, .ref lli, .ref lki, .ref lfd, .ref lfr, .ref lto, .ref lse, .ref lhl])), (lki, .inl (cI, 5, .inl lFki)), (mfd, .inl (cI, 7, .inl mFfd)), (mhd, .inl (cI, 7, .inl mFhd))] := hD
        exact ret_v (post := (fun (u : Int32 × Int32 × (Nat → Int32) × (Nat → Int32)) => True)) (W1 := (fun u => [(h0, .inr (1, [.ref ln, .int md, .int mt, .int u.1, .int u.2.1, .ref mat, .ref mfd, .ref mhd])), (ln, .inr (0, [.int lpe, .int ltk, .ref lho, .ref lli, .ref lki, .ref lfd, .ref lfr, .ref lto, .ref lse, .ref lhl])), (lki, .inl (cI, 5, .inl lFki)), (mfd, .inl (cI, 7, .inl u.2.2.1)), (mhd, .inl (cI, 7, .inl u.2.2.2))])) (mr, v_9, mFfd, mFhd) hx hb hr hlocks hQ hK hP hD hS ⟨by decide, by decide⟩ dX1_useTicket_144 trivial
      · have tc_7 := b_nle (show (10 : Int32).toInt = 10 by decide) rfl c_7
        refine lv_aload_n hx hb dX1_useTicket_77 rfl (lv_at hl 1 rfl) ?_
        refine lv_dup hx hb dX1_useTicket_78 rfl ?_
        refine va_get (D := D) (ci := 1) (v := .int mr) (C := RX1) (T := TX1) (N := 8) hx hb hts iX1 hown hK hP 0 rfl rfl 3 (by decide) (hts (.fieldLink RX1 18 "PunchedTicket$Moment" "returns" "I") (List.mem_of_getElem? (i := 4) rfl)) (fun _ h9 => h9) rfl dX1_useTicket_79 ?_
        refine lv_iconst (v := 1) hx hb dX1_useTicket_82 (by decide) ?_
        refine lv_iload_n hx hb dX1_useTicket_83 rfl (lv_at hl 2 rfl) ?_
        refine lv_ishl hx hb dX1_useTicket_84 ?_
        refine lv_topi (fun v_10 ev_10 => ?_)
        refine lv_iconst (v := (-1)) hx hb dX1_useTicket_85 (by decide) ?_
        refine lv_ixor hx hb dX1_useTicket_86 ?_
        refine lv_topi (fun v_11 ev_11 => ?_)
        refine lv_iand hx hb dX1_useTicket_87 ?_
        refine lv_topi (fun v_12 ev_12 => ?_)
        refine va_put (D := D) (ci := 1) (v := .int v_12) (ty := .int) (C := RX1) (T := TX1) (N := 8) hx hb hts iX1 tyX1 tyX1_ok nmX1 hown hK hP hD hS 0 rfl rfl 3 (by decide) (hts (.fieldLink RX1 18 "PunchedTicket$Moment" "returns" "I") (List.mem_of_getElem? (i := 4) rfl)) (fun _ h9 => h9) rfl (by decide +kernel) rfl rfl (Nat.le_of_ble_eq_true rfl) dX1_useTicket_88 (fun H locs hP hD hS => ?_)
        have hP : va_P D vwCl [(h0, .inr (1, [.ref ln, .int md, .int mt, .int v_12, .int mg, .ref mat, .ref mfd, .ref mhd])), (ln, .inr (0, [.int lpe, .int ltk, .ref lho, .ref lli, .ref lki, .ref lfd, .ref lfr, .ref lto, .ref lse, .ref lhl])), (lki, .inl (cI, 5, .inl lFki)), (mfd, .inl (cI, 7, .inl mFfd)), (mhd, .inl (cI, 7, .inl mFhd))] H := hP
        have hD : va_D A [(h0, .inr (1, [.ref ln, .int md, .int mt, .int v_12, .int mg, .ref mat, .ref mfd, .ref mhd])), (ln, .inr (0, [.int lpe, .int ltk, .ref lho, .ref lli, .ref lki, .ref lfd, .ref lfr, .ref lto, .ref lse, .ref lhl])), (lki, .inl (cI, 5, .inl lFki)), (mfd, .inl (cI, 7, .inl mFfd)), (mhd, .inl (cI, 7, .inl mFhd))] := hD
        refine lv_aload_n hx hb dX1_useTicket_91 rfl (lv_at hl 1 rfl) ?_
        refine va_get (D := D) (ci := 1) (v := .ref mfd) (C := RX1) (T := TX1) (N := 8) hx hb hts iX1 hown hK hP 0 rfl rfl 6 (by decide) (hts (.fieldLink RX1 28 "PunchedTicket$Moment" "forDay" "[I") (List.mem_of_getElem? (i := 5) rfl)) (fun _ h9 => h9) rfl dX1_useTicket_92 ?_
        refine lv_iload_n hx hb dX1_useTicket_95 rfl (lv_at hl 2 rfl) ?_
        refine lv_aload_n hx hb dX1_useTicket_96 rfl (lv_at hl 1 rfl) ?_
        refine va_get (D := D) (ci := 1) (v := .int md) (C := RX1) (T := TX1) (N := 8) hx hb hts iX1 hown hK hP 0 rfl rfl 1 (by decide) (hts (.fieldLink RX1 9 "PunchedTicket$Moment" "day" "I") (List.mem_of_getElem? (i := 3) rfl)) (fun _ h9 => h9) rfl dX1_useTicket_97 ?_
        refine lv_iconst (v := 3) hx hb dX1_useTicket_100 (by decide) ?_
        refine lv_iadd hx hb dX1_useTicket_101 ?_
        refine lv_topi (fun v_13 ev_13 => ?_)
        have tv_13 : v_13.toInt = md.toInt + (3 : Int) := by rw [ev_13]; exact ti_add (x := md) (y := 3) (show -2147483648 ≤ md.toInt + (3 : Int) by omega) (show md.toInt + (3 : Int) < 2147483648 by omega)
        refine va_iast hx hb hK hP hD hS 3 0 rfl rfl (vp_in_iff.mpr ⟨by omega, by omega⟩) dX1_useTicket_102 (fun H locs hP hD hS => ?_)
        obtain ⟨f_14, ef_14⟩ : ∃ g : Nat → Int32, upd mFfd (n : Int32).toNatClampNeg v_13 = g := ⟨_, rfl⟩
        rw [ef_14] at hP hD
        have hP : va_P D vwCl [(h0, .inr (1, [.ref ln, .int md, .int mt, .int v_12, .int mg, .ref mat, .ref mfd, .ref mhd])), (ln, .inr (0, [.int lpe, .int ltk, .ref lho, .ref lli, .ref lki, .ref lfd, .ref lfr, .ref lto, .ref lse, .ref lhl])), (lki, .inl (cI, 5, .inl lFki)), (mfd, .inl (cI, 7, .inl f_14)), (mhd, .inl (cI, 7, .inl mFhd))] H := hP
        have hD : va_D A [(h0, .inr (1, [.ref ln, .int md, .int mt, .int v_12, .int mg, .ref mat, .ref mfd, .ref mhd])), (ln, .inr (0, [.int lpe, .int ltk, .ref lho, .ref lli, .ref lki, .ref lfd, .ref lfr, .ref lto, .ref lse, .ref lhl])), (lki, .inl (cI, 5, .inl lFki)), (mfd, .inl (cI, 7, .inl f_14)), (mhd, .inl (cI, 7, .inl mFhd))] := hD
        refine lv_aload_n hx hb dX1_useTicket_103 rfl (lv_at hl 1 rfl) ?_
        refine va_get (D := D) (ci := 1) (v := .ref mhd) (C := RX1) (T := TX1) (N := 8) hx hb hts iX1 hown hK hP 0 rfl rfl 7 (by decide) (hts (.fieldLink RX1 31 "PunchedTicket$Moment" "holder" "[I") (List.mem_of_getElem? (i := 6) rfl)) (fun _ h9 => h9) rfl dX1_useTicket_104 ?_
        refine lv_iload_n hx hb dX1_useTicket_107 rfl (lv_at hl 2 rfl) ?_
        refine lv_iload_n hx hb dX1_useTicket_108 rfl (lv_at hl 3 rfl) ?_
        refine lv_iconst (v := 1) hx hb dX1_useTicket_109 (by decide) ?_
        refine lv_iadd hx hb dX1_useTicket_110 ?_
        refine lv_topi (fun v_15 ev_15 => ?_)
        have tv_15 : v_15.toInt = k.toInt + (1 : Int) := by rw [ev_15]; exact ti_add (x := k) (y := 1) (show -2147483648 ≤ k.toInt + (1 : Int) by omega) (show k.toInt + (1 : Int) < 2147483648 by omega)
        refine lv_aload_n hx hb dX1_useTicket_111 rfl (lv_at hl 1 rfl) ?_
        refine va_get (D := D) (ci := 1) (v := .ref ln) (C := RX1) (T := TX1) (N := 8) hx hb hts iX1 hown hK hP 0 rfl rfl 0 (by decide) (hts (.fieldLink RX1 34 "PunchedTicket$Moment" "line" "LPunchedTicket$Line;") (List.mem_of_getElem? (i := 1) rfl)) (fun _ h9 => h9) rfl dX1_useTicket_112 ?_
        refine va_get (D := D) (ci := 0) (v := .int lpe) (C := RX0) (T := TX0) (N := 10) hx hb hts iX0 hown hK hP 1 rfl rfl 0 (by decide) (hts (.fieldLink RX1 65 "PunchedTicket$Line" "people" "I") (List.mem_of_getElem? (i := 7) rfl)) (fun _ h9 => h9) rfl dX1_useTicket_115 ?_
        refine lv_icmp_ge (tgt := 127) hx hb dX1_useTicket_118 (by decide) (fun c_16 => ?_) (fun c_16 => ?_)
        · have tc_16 := b_le rfl rfl c_16
          refine lv_iconst (v := 0) hx hb dX1_useTicket_127 (by decide) ?_
          refine va_iast hx hb hK hP hD hS 4 0 rfl rfl (vp_in_iff.mpr ⟨by omega, by omega⟩) dX1_useTicket_128 (fun H locs hP hD hS => ?_)
          obtain ⟨f_17, ef_17⟩ : ∃ g : Nat → Int32, upd mFhd (n : Int32).toNatClampNeg 0 = g := ⟨_, rfl⟩
          rw [ef_17] at hP hD
          have hP : va_P D vwCl [(h0, .inr (1, [.ref ln, .int md, .int mt, .int v_12, .int mg, .ref mat, .ref mfd, .ref mhd])), (ln, .inr (0, [.int lpe, .int ltk, .ref lho, .ref lli, .ref lki, .ref lfd, .ref lfr, .ref lto, .ref lse, .ref lhl])), (lki, .inl (cI, 5, .inl lFki)), (mfd, .inl (cI, 7, .inl f_14)), (mhd, .inl (cI, 7, .inl f_17))] H := hP
          have hD : va_D A [(h0, .inr (1, [.ref ln, .int md, .int mt, .int v_12, .int mg, .ref mat, .ref mfd, .ref mhd])), (ln, .inr (0, [.int lpe, .int ltk, .ref lho, .ref lli, .ref lki, .ref lfd, .ref lfr, .ref lto, .ref lse, .ref lhl])), (lki, .inl (cI, 5, .inl lFki)), (mfd, .inl (cI, 7, .inl f_14)), (mhd, .inl (cI, 7, .inl f_17))] := hD
          refine lv_goto (tgt := 144) hx hb dX1_useTicket_129 (by decide) ?_
          exact ret_v (post := (fun (u : Int32 × Int32 × (Nat → Int32) × (Nat → Int32)) => True)) (W1 := (fun u => [(h0, .inr (1, [.ref ln, .int md, .int mt, .int u.1, .int u.2.1, .ref mat, .ref mfd, .ref mhd])), (ln, .inr (0, [.int lpe, .int ltk, .ref lho, .ref lli, .ref lki, .ref lfd, .ref lfr, .ref lto, .ref lse, .ref lhl])), (lki, .inl (cI, 5, .inl lFki)), (mfd, .inl (cI, 7, .inl u.2.2.1)), (mhd, .inl (cI, 7, .inl u.2.2.2))])) (v_12, mg, f_14, f_17) hx hb hr hlocks hQ hK hP hD hS ⟨by decide, by decide⟩ dX1_useTicket_144 trivial
        · have tc_16 := b_nle rfl rfl c_16
          refine lv_iload_n hx hb dX1_useTicket_121 rfl (lv_at hl 3 rfl) ?_
          refine lv_iconst (v := 1) hx hb dX1_useTicket_122 (by decide) ?_
          refine lv_iadd hx hb dX1_useTicket_123 ?_
          refine lv_topi (fun v_18 ev_18 => ?_)
          have tv_18 : v_18.toInt = k.toInt + (1 : Int) := by rw [ev_18]; exact ti_add (x := k) (y := 1) (show -2147483648 ≤ k.toInt + (1 : Int) by omega) (show k.toInt + (1 : Int) < 2147483648 by omega)
          refine lv_goto (tgt := 128) hx hb dX1_useTicket_124 (by decide) ?_
          refine va_iast hx hb hK hP hD hS 4 0 rfl rfl (vp_in_iff.mpr ⟨by omega, by omega⟩) dX1_useTicket_128 (fun H locs hP hD hS => ?_)
          obtain ⟨f_19, ef_19⟩ : ∃ g : Nat → Int32, upd mFhd (n : Int32).toNatClampNeg v_18 = g := ⟨_, rfl⟩
          rw [ef_19] at hP hD
          have hP : va_P D vwCl [(h0, .inr (1, [.ref ln, .int md, .int mt, .int v_12, .int mg, .ref mat, .ref mfd, .ref mhd])), (ln, .inr (0, [.int lpe, .int ltk, .ref lho, .ref lli, .ref lki, .ref lfd, .ref lfr, .ref lto, .ref lse, .ref lhl])), (lki, .inl (cI, 5, .inl lFki)), (mfd, .inl (cI, 7, .inl f_14)), (mhd, .inl (cI, 7, .inl f_19))] H := hP
          have hD : va_D A [(h0, .inr (1, [.ref ln, .int md, .int mt, .int v_12, .int mg, .ref mat, .ref mfd, .ref mhd])), (ln, .inr (0, [.int lpe, .int ltk, .ref lho, .ref lli, .ref lki, .ref lfd, .ref lfr, .ref lto, .ref lse, .ref lhl])), (lki, .inl (cI, 5, .inl lFki)), (mfd, .inl (cI, 7, .inl f_14)), (mhd, .inl (cI, 7, .inl f_19))] := hD
          refine lv_goto (tgt := 144) hx hb dX1_useTicket_129 (by decide) ?_
          exact ret_v (post := (fun (u : Int32 × Int32 × (Nat → Int32) × (Nat → Int32)) => True)) (W1 := (fun u => [(h0, .inr (1, [.ref ln, .int md, .int mt, .int u.1, .int u.2.1, .ref mat, .ref mfd, .ref mhd])), (ln, .inr (0, [.int lpe, .int ltk, .ref lho, .ref lli, .ref lki, .ref lfd, .ref lfr, .ref lto, .ref lse, .ref lhl])), (lki, .inl (cI, 5, .inl lFki)), (mfd, .inl (cI, 7, .inl u.2.2.1)), (mhd, .inl (cI, 7, .inl u.2.2.2))])) (v_12, mg, f_14, f_19) hx hb hr hlocks hQ hK hP hD hS ⟨by decide, by decide⟩ dX1_useTicket_144 trivial
  · have tc_2 := b_eq rfl (show (1 : Int32).toInt = 1 by decide) c_2
    refine lv_aload_n hx hb dX1_useTicket_15 rfl (lv_at hl 1 rfl) ?_
    refine lv_iload_n hx hb dX1_useTicket_16 rfl (lv_at hl 2 rfl) ?_
    refine cV_i (As := [.int n]) (rest := []) ⟨hx, hb, hml, hown, hts⟩ (c_X1_isReturn l D cI cZ cM h0 n ln md mt mr mg mat mfd mhd _ ) (cwV 1 hts gX1_useTicket_X1_isReturn rfl rfl rfl (by decide +kernel) ⟨by rw [hR]; decide, by rw [hR]; decide⟩) hK hP hD hS hA [0] [1, 2, 3, 4] rfl rfl (by decide) (by decide) (by decide) rfl 0 rfl hl.1 rfl rfl (Nat.le_of_ble_eq_true rfl) dX1_useTicket_17 ⟨by rw [hR]; decide, by rw [hR]; decide⟩ (fun r_20 u_21 H locs hw hP hD hS => ?_)
    have hP : va_P D vwCl [(h0, .inr (1, [.ref ln, .int md, .int mt, .int mr, .int mg, .ref mat, .ref mfd, .ref mhd])), (ln, .inr (0, [.int lpe, .int ltk, .ref lho, .ref lli, .ref lki, .ref lfd, .ref lfr, .ref lto, .ref lse, .ref lhl])), (lki, .inl (cI, 5, .inl lFki)), (mfd, .inl (cI, 7, .inl mFfd)), (mhd, .inl (cI, 7, .inl mFhd))] H := hP.sub [4, 0, 1, 2, 3] rfl
    have hD : va_D A [(h0, .inr (1, [.ref ln, .int md, .int mt, .int mr, .int mg, .ref mat, .ref mfd, .ref mhd])), (ln, .inr (0, [.int lpe, .int ltk, .ref lho, .ref lli, .ref lki, .ref lfd, .ref lfr, .ref lto, .ref lse, .ref lhl])), (lki, .inl (cI, 5, .inl lFki)), (mfd, .inl (cI, 7, .inl mFfd)), (mhd, .inl (cI, 7, .inl mFhd))] := hD.sub [4, 0, 1, 2, 3] (by decide) rfl
    refine W.widen (k := 0) (n := 0) (Nat.le_refl _) (Nat.le_refl _) ?_
    have hw : (r_20.toInt = 0 ∨ r_20.toInt = 1) := hw
    have hw_22 := hw
    refine lv_if_ne (tgt := 61) hx hb dX1_useTicket_20 (by decide) (fun c_23 => ?_) (fun c_23 => ?_)
    · have tc_23 := b_ne rfl (show (0 : Int32).toInt = 0 by decide) c_23
      refine lv_iload_n hx hb dX1_useTicket_61 rfl (lv_at hl 0 rfl) ?_
      refine lv_iconst (v := 2) hx hb dX1_useTicket_62 (by decide) ?_
      refine lv_icmp_ne (tgt := 132) hx hb dX1_useTicket_63 (by decide) (fun c_24 => ?_) (fun c_24 => ?_)
      · have tc_24 := b_ne rfl (show (2 : Int32).toInt = 2 by decide) c_24
        refine lv_aload_n hx hb dX1_useTicket_132 rfl (lv_at hl 1 rfl) ?_
        refine lv_dup hx hb dX1_useTicket_133 rfl ?_
        refine va_get (D := D) (ci := 1) (v := .int mg) (C := RX1) (T := TX1) (N := 8) hx hb hts iX1 hown hK hP 0 rfl rfl 4 (by decide) (hts (.fieldLink RX1 21 "PunchedTicket$Moment" "gone" "I") (List.mem_of_getElem? (i := 8) rfl)) (fun _ h9 => h9) rfl dX1_useTicket_134 ?_
        refine lv_iconst (v := 1) hx hb dX1_useTicket_137 (by decide) ?_
        refine lv_iload_n hx hb dX1_useTicket_138 rfl (lv_at hl 2 rfl) ?_
        refine lv_ishl hx hb dX1_useTicket_139 ?_
        refine lv_topi (fun v_25 ev_25 => ?_)
        refine lv_ior hx hb dX1_useTicket_140 ?_
        refine lv_topi (fun v_26 ev_26 => ?_)
        refine va_put (D := D) (ci := 1) (v := .int v_26) (ty := .int) (C := RX1) (T := TX1) (N := 8) hx hb hts iX1 tyX1 tyX1_ok nmX1 hown hK hP hD hS 0 rfl rfl 4 (by decide) (hts (.fieldLink RX1 21 "PunchedTicket$Moment" "gone" "I") (List.mem_of_getElem? (i := 8) rfl)) (fun _ h9 => h9) rfl (by decide +kernel) rfl rfl (Nat.le_of_ble_eq_true rfl) dX1_useTicket_141 (fun H locs hP hD hS => ?_)
        have hP : va_P D vwCl [(h0, .inr (1, [.ref ln, .int md, .int mt, .int mr, .int v_26, .ref mat, .ref mfd, .ref mhd])), (ln, .inr (0, [.int lpe, .int ltk, .ref lho, .ref lli, .ref lki, .ref lfd, .ref lfr, .ref lto, .ref lse, .ref lhl])), (lki, .inl (cI, 5, .inl lFki)), (mfd, .inl (cI, 7, .inl mFfd)), (mhd, .inl (cI, 7, .inl mFhd))] H := hP
        have hD : va_D A [(h0, .inr (1, [.ref ln, .int md, .int mt, .int mr, .int v_26, .ref mat, .ref mfd, .ref mhd])), (ln, .inr (0, [.int lpe, .int ltk, .ref lho, .ref lli, .ref lki, .ref lfd, .ref lfr, .ref lto, .ref lse, .ref lhl])), (lki, .inl (cI, 5, .inl lFki)), (mfd, .inl (cI, 7, .inl mFfd)), (mhd, .inl (cI, 7, .inl mFhd))] := hD
        exact ret_v (post := (fun (u : Int32 × Int32 × (Nat → Int32) × (Nat → Int32)) => True)) (W1 := (fun u => [(h0, .inr (1, [.ref ln, .int md, .int mt, .int u.1, .int u.2.1, .ref mat, .ref mfd, .ref mhd])), (ln, .inr (0, [.int lpe, .int ltk, .ref lho, .ref lli, .ref lki, .ref lfd, .ref lfr, .ref lto, .ref lse, .ref lhl])), (lki, .inl (cI, 5, .inl lFki)), (mfd, .inl (cI, 7, .inl u.2.2.1)), (mhd, .inl (cI, 7, .inl u.2.2.2))])) (mr, v_26, mFfd, mFhd) hx hb hr hlocks hQ hK hP hD hS ⟨by decide, by decide⟩ dX1_useTicket_144 trivial
      · have tc_24 := b_eq rfl (show (2 : Int32).toInt = 2 by decide) c_24
        exfalso; omega
    · have tc_23 := b_eq rfl (show (0 : Int32).toInt = 0 by decide) c_23
      refine lv_aload_n hx hb dX1_useTicket_23 rfl (lv_at hl 1 rfl) ?_
      refine va_get (D := D) (ci := 1) (v := .int md) (C := RX1) (T := TX1) (N := 8) hx hb hts iX1 hown hK hP 0 rfl rfl 1 (by decide) (hts (.fieldLink RX1 9 "PunchedTicket$Moment" "day" "I") (List.mem_of_getElem? (i := 3) rfl)) (fun _ h9 => h9) rfl dX1_useTicket_24 ?_
      refine lv_iconst (v := 1) hx hb dX1_useTicket_27 (by decide) ?_
      refine lv_iadd hx hb dX1_useTicket_28 ?_
      refine lv_topi (fun v_27 ev_27 => ?_)
      have tv_27 : v_27.toInt = md.toInt + (1 : Int) := by rw [ev_27]; exact ti_add (x := md) (y := 1) (show -2147483648 ≤ md.toInt + (1 : Int) by omega) (show md.toInt + (1 : Int) < 2147483648 by omega)
      refine lv_bipush (v := 10) hx hb dX1_useTicket_29 (by decide) ?_
      refine lv_icmp_ge (tgt := 61) hx hb dX1_useTicket_31 (by decide) (fun c_28 => ?_) (fun c_28 => ?_)
      · have tc_28 := b_le (show (10 : Int32).toInt = 10 by decide) rfl c_28
        refine lv_iload_n hx hb dX1_useTicket_61 rfl (lv_at hl 0 rfl) ?_
        refine lv_iconst (v := 2) hx hb dX1_useTicket_62 (by decide) ?_
        refine lv_icmp_ne (tgt := 132) hx hb dX1_useTicket_63 (by decide) (fun c_29 => ?_) (fun c_29 => ?_)
        · have tc_29 := b_ne rfl (show (2 : Int32).toInt = 2 by decide) c_29
          refine lv_aload_n hx hb dX1_useTicket_132 rfl (lv_at hl 1 rfl) ?_
          refine lv_dup hx hb dX1_useTicket_133 rfl ?_
          refine va_get (D := D) (ci := 1) (v := .int mg) (C := RX1) (T := TX1) (N := 8) hx hb hts iX1 hown hK hP 0 rfl rfl 4 (by decide) (hts (.fieldLink RX1 21 "PunchedTicket$Moment" "gone" "I") (List.mem_of_getElem? (i := 8) rfl)) (fun _ h9 => h9) rfl dX1_useTicket_134 ?_
          refine lv_iconst (v := 1) hx hb dX1_useTicket_137 (by decide) ?_
          refine lv_iload_n hx hb dX1_useTicket_138 rfl (lv_at hl 2 rfl) ?_
          refine lv_ishl hx hb dX1_useTicket_139 ?_
          refine lv_topi (fun v_30 ev_30 => ?_)
          refine lv_ior hx hb dX1_useTicket_140 ?_
          refine lv_topi (fun v_31 ev_31 => ?_)
          refine va_put (D := D) (ci := 1) (v := .int v_31) (ty := .int) (C := RX1) (T := TX1) (N := 8) hx hb hts iX1 tyX1 tyX1_ok nmX1 hown hK hP hD hS 0 rfl rfl 4 (by decide) (hts (.fieldLink RX1 21 "PunchedTicket$Moment" "gone" "I") (List.mem_of_getElem? (i := 8) rfl)) (fun _ h9 => h9) rfl (by decide +kernel) rfl rfl (Nat.le_of_ble_eq_true rfl) dX1_useTicket_141 (fun H locs hP hD hS => ?_)
          have hP : va_P D vwCl [(h0, .inr (1, [.ref ln, .int md, .int mt, .int mr, .int v_31, .ref mat, .ref mfd, .ref mhd])), (ln, .inr (0, [.int lpe, .int ltk, .ref lho, .ref lli, .ref lki, .ref lfd, .ref lfr, .ref lto, .ref lse, .ref lhl])), (lki, .inl (cI, 5, .inl lFki)), (mfd, .inl (cI, 7, .inl mFfd)), (mhd, .inl (cI, 7, .inl mFhd))] H := hP
          have hD : va_D A [(h0, .inr (1, [.ref ln, .int md, .int mt, .int mr, .int v_31, .ref mat, .ref mfd, .ref mhd])), (ln, .inr (0, [.int lpe, .int ltk, .ref lho, .ref lli, .ref lki, .ref lfd, .ref lfr, .ref lto, .ref lse, .ref lhl])), (lki, .inl (cI, 5, .inl lFki)), (mfd, .inl (cI, 7, .inl mFfd)), (mhd, .inl (cI, 7, .inl mFhd))] := hD
          exact ret_v (post := (fun (u : Int32 × Int32 × (Nat → Int32) × (Nat → Int32)) => True)) (W1 := (fun u => [(h0, .inr (1, [.ref ln, .int md, .int mt, .int u.1, .int u.2.1, .ref mat, .ref mfd, .ref mhd])), (ln, .inr (0, [.int lpe, .int ltk, .ref lho, .ref lli, .ref lki, .ref lfd, .ref lfr, .ref lto, .ref lse, .ref lhl])), (lki, .inl (cI, 5, .inl lFki)), (mfd, .inl (cI, 7, .inl u.2.2.1)), (mhd, .inl (cI, 7, .inl u.2.2.2))])) (mr, v_31, mFfd, mFhd) hx hb hr hlocks hQ hK hP hD hS ⟨by decide, by decide⟩ dX1_useTicket_144 trivial
        · have tc_29 := b_eq rfl (show (2 : Int32).toInt = 2 by decide) c_29
          exfalso; omega
      · have tc_28 := b_nle (show (10 : Int32).toInt = 10 by decide) rfl c_28
        refine lv_aload_n hx hb dX1_useTicket_34 rfl (lv_at hl 1 rfl) ?_
        refine lv_dup hx hb dX1_useTicket_35 rfl ?_
        refine va_get (D := D) (ci := 1) (v := .int mr) (C := RX1) (T := TX1) (N := 8) hx hb hts iX1 hown hK hP 0 rfl rfl 3 (by decide) (hts (.fieldLink RX1 18 "PunchedTicket$Moment" "returns" "I") (List.mem_of_getElem? (i := 4) rfl)) (fun _ h9 => h9) rfl dX1_useTicket_36 ?_
        refine lv_iconst (v := 1) hx hb dX1_useTicket_39 (by decide) ?_
        refine lv_iload_n hx hb dX1_useTicket_40 rfl (lv_at hl 2 rfl) ?_
        refine lv_ishl hx hb dX1_useTicket_41 ?_
        refine lv_topi (fun v_32 ev_32 => ?_)
        refine lv_ior hx hb dX1_useTicket_42 ?_
        refine lv_topi (fun v_33 ev_33 => ?_)
        refine va_put (D := D) (ci := 1) (v := .int v_33) (ty := .int) (C := RX1) (T := TX1) (N := 8) hx hb hts iX1 tyX1 tyX1_ok nmX1 hown hK hP hD hS 0 rfl rfl 3 (by decide) (hts (.fieldLink RX1 18 "PunchedTicket$Moment" "returns" "I") (List.mem_of_getElem? (i := 4) rfl)) (fun _ h9 => h9) rfl (by decide +kernel) rfl rfl (Nat.le_of_ble_eq_true rfl) dX1_useTicket_43 (fun H locs hP hD hS => ?_)
        have hP : va_P D vwCl [(h0, .inr (1, [.ref ln, .int md, .int mt, .int v_33, .int mg, .ref mat, .ref mfd, .ref mhd])), (ln, .inr (0, [.int lpe, .int ltk, .ref lho, .ref lli, .ref lki, .ref lfd, .ref lfr, .ref lto, .ref lse, .ref lhl])), (lki, .inl (cI, 5, .inl lFki)), (mfd, .inl (cI, 7, .inl mFfd)), (mhd, .inl (cI, 7, .inl mFhd))] H := hP
        have hD : va_D A [(h0, .inr (1, [.ref ln, .int md, .int mt, .int v_33, .int mg, .ref mat, .ref mfd, .ref mhd])), (ln, .inr (0, [.int lpe, .int ltk, .ref lho, .ref lli, .ref lki, .ref lfd, .ref lfr, .ref lto, .ref lse, .ref lhl])), (lki, .inl (cI, 5, .inl lFki)), (mfd, .inl (cI, 7, .inl mFfd)), (mhd, .inl (cI, 7, .inl mFhd))] := hD
        refine lv_aload_n hx hb dX1_useTicket_46 rfl (lv_at hl 1 rfl) ?_
        refine va_get (D := D) (ci := 1) (v := .ref mfd) (C := RX1) (T := TX1) (N := 8) hx hb hts iX1 hown hK hP 0 rfl rfl 6 (by decide) (hts (.fieldLink RX1 28 "PunchedTicket$Moment" "forDay" "[I") (List.mem_of_getElem? (i := 5) rfl)) (fun _ h9 => h9) rfl dX1_useTicket_47 ?_
        refine lv_iload_n hx hb dX1_useTicket_50 rfl (lv_at hl 2 rfl) ?_
        refine lv_aload_n hx hb dX1_useTicket_51 rfl (lv_at hl 1 rfl) ?_
        refine va_get (D := D) (ci := 1) (v := .int md) (C := RX1) (T := TX1) (N := 8) hx hb hts iX1 hown hK hP 0 rfl rfl 1 (by decide) (hts (.fieldLink RX1 9 "PunchedTicket$Moment" "day" "I") (List.mem_of_getElem? (i := 3) rfl)) (fun _ h9 => h9) rfl dX1_useTicket_52 ?_
        refine lv_iconst (v := 1) hx hb dX1_useTicket_55 (by decide) ?_
        refine lv_iadd hx hb dX1_useTicket_56 ?_
        refine lv_topi (fun v_34 ev_34 => ?_)
        have tv_34 : v_34.toInt = md.toInt + (1 : Int) := by rw [ev_34]; exact ti_add (x := md) (y := 1) (show -2147483648 ≤ md.toInt + (1 : Int) by omega) (show md.toInt + (1 : Int) < 2147483648 by omega)
        refine va_iast hx hb hK hP hD hS 3 0 rfl rfl (vp_in_iff.mpr ⟨by omega, by omega⟩) dX1_useTicket_57 (fun H locs hP hD hS => ?_)
        obtain ⟨f_35, ef_35⟩ : ∃ g : Nat → Int32, upd mFfd (n : Int32).toNatClampNeg v_34 = g := ⟨_, rfl⟩
        rw [ef_35] at hP hD
        have hP : va_P D vwCl [(h0, .inr (1, [.ref ln, .int md, .int mt, .int v_33, .int mg, .ref mat, .ref mfd, .ref mhd])), (ln, .inr (0, [.int lpe, .int ltk, .ref lho, .ref lli, .ref lki, .ref lfd, .ref lfr, .ref lto, .ref lse, .ref lhl])), (lki, .inl (cI, 5, .inl lFki)), (mfd, .inl (cI, 7, .inl f_35)), (mhd, .inl (cI, 7, .inl mFhd))] H := hP
        have hD : va_D A [(h0, .inr (1, [.ref ln, .int md, .int mt, .int v_33, .int mg, .ref mat, .ref mfd, .ref mhd])), (ln, .inr (0, [.int lpe, .int ltk, .ref lho, .ref lli, .ref lki, .ref lfd, .ref lfr, .ref lto, .ref lse, .ref lhl])), (lki, .inl (cI, 5, .inl lFki)), (mfd, .inl (cI, 7, .inl f_35)), (mhd, .inl (cI, 7, .inl mFhd))] := hD
        refine lv_goto (tgt := 144) hx hb dX1_useTicket_58 (by decide) ?_
        exact ret_v (post := (fun (u : Int32 × Int32 × (Nat → Int32) × (Nat → Int32)) => True)) (W1 := (fun u => [(h0, .inr (1, [.ref ln, .int md, .int mt, .int u.1, .int u.2.1, .ref mat, .ref mfd, .ref mhd])), (ln, .inr (0, [.int lpe, .int ltk, .ref lho, .ref lli, .ref lki, .ref lfd, .ref lfr, .ref lto, .ref lse, .ref lhl])), (lki, .inl (cI, 5, .inl lFki)), (mfd, .inl (cI, 7, .inl u.2.2.1)), (mhd, .inl (cI, 7, .inl u.2.2.2))])) (v_33, mg, f_35, mFhd) hx hb hr hlocks hQ hK hP hD hS ⟨by decide, by decide⟩ dX1_useTicket_144 trivial

set_option maxHeartbeats 600000 in
set_option maxRecDepth 100000 in
theorem c_X1_passDay (l : Launch) (D : va_G) (cI cZ cM : ClassId) (h0 : Nat) (rd : Nat) (ln : Nat) (md : Int32) (mt : Int32) (mr : Int32) (mg : Int32) (mat : Nat) (mfd : Nat) (mhd : Nat) (lpe : Int32) (ltk : Int32) (lho : Nat) (lli : Nat) (lki : Nat) (lfd : Nat) (lfr : Nat) (lto : Nat) (lse : Nat) (lhl : Nat) (lFto : Nat → Int32) (lFfr : Nat → Int32) (lFki : Nat → Int32) (mFat : Nat → Int32) (mFfd : Nat → Int32) (mFhd : Nat → Int32) (Frd : Nat → Int32) (sz : Nat) (h_mt : 0 ≤ mt.toInt ∧ mt.toInt ≤ 7) (h_lpe : 0 ≤ lpe.toInt ∧ lpe.toInt ≤ 5) (h_md : 0 ≤ md.toInt ∧ md.toInt ≤ 9) : Ci l yX1_passDay wsX1_passDay ({ frames := 2, cells := 0, slots := 0, locals := 47 } : Room) D cI cZ cM [.ref h0, .ref rd] [(h0, .inr (1, [.ref ln, .int md, .int mt, .int mr, .int mg, .ref mat, .ref mfd, .ref mhd])), (ln, .inr (0, [.int lpe, .int ltk, .ref lho, .ref lli, .ref lki, .ref lfd, .ref lfr, .ref lto, .ref lse, .ref lhl])), (lto, .inl (cI, 7, .inl lFto)), (lfr, .inl (cI, 7, .inl lFfr)), (lki, .inl (cI, 5, .inl lFki)), (mat, .inl (cI, 5, .inl mFat)), (mfd, .inl (cI, 7, .inl mFfd)), (mhd, .inl (cI, 7, .inl mFhd)), (rd, .inl (cI, 5, .inl Frd))] sz (fun (r : Int32) (u : Int32 × Int32 × Int32 × (Nat → Int32) × (Nat → Int32) × (Nat → Int32) × (Nat → Int32)) => u.1.toInt = md.toInt + 1 ∧ (lpe.toInt = 0 → r.toInt = 0)) (fun u => [(h0, .inr (1, [.ref ln, .int u.1, .int mt, .int u.2.1, .int u.2.2.1, .ref mat, .ref mfd, .ref mhd])), (ln, .inr (0, [.int lpe, .int ltk, .ref lho, .ref lli, .ref lki, .ref lfd, .ref lfr, .ref lto, .ref lse, .ref lhl])), (lto, .inl (cI, 7, .inl lFto)), (lfr, .inl (cI, 7, .inl lFfr)), (lki, .inl (cI, 5, .inl lFki)), (mat, .inl (cI, 5, .inl u.2.2.2.1)), (mfd, .inl (cI, 7, .inl u.2.2.2.2.1)), (mhd, .inl (cI, 7, .inl u.2.2.2.2.2.1)), (rd, .inl (cI, 5, .inl u.2.2.2.2.2.2))]) 0 0 := by
  refine begins (l := l) (y := yX1_passDay) (ws := wsX1_passDay) (av := [.ref h0, .ref rd]) (Qc := fun A => va_Qi (fun (r : Int32) (u : Int32 × Int32 × Int32 × (Nat → Int32) × (Nat → Int32) × (Nat → Int32) × (Nat → Int32)) => u.1.toInt = md.toInt + 1 ∧ (lpe.toInt = 0 → r.toInt = 0)) (fun u => Wd D cI cZ cM A ((fun u => [(h0, .inr (1, [.ref ln, .int u.1, .int mt, .int u.2.1, .int u.2.2.1, .ref mat, .ref mfd, .ref mhd])), (ln, .inr (0, [.int lpe, .int ltk, .ref lho, .ref lli, .ref lki, .ref lfd, .ref lfr, .ref lto, .ref lse, .ref lhl])), (lto, .inl (cI, 7, .inl lFto)), (lfr, .inl (cI, 7, .inl lFfr)), (lki, .inl (cI, 5, .inl lFki)), (mat, .inl (cI, 5, .inl u.2.2.2.1)), (mfd, .inl (cI, 7, .inl u.2.2.2.2.1)), (mhd, .inl (cI, 7, .inl u.2.2.2.2.2.1)), (rd, .inl (cI, 5, .inl u.2.2.2.2.2.2))]) u)) A) cX1_passDay 5 (some .int) (by decide) rfl (Nat.le_of_ble_eq_true rfl) ?_
  intro p e s m args below meth c R Q A ls hBd hR hQ hA hS hK hP hD hl
  obtain ⟨hx, hb, hr, hts, hown, hlocks, hin, hml⟩ := hBd
  have hl : lv_has ls 5 [(0, .ref h0), (1, .ref rd)] := hl
  have iX1 : ∀ w ∈ wsX10, w ∈ wsX1_passDay := fun _ h => List.mem_cons_of_mem _ (List.mem_append_left _ (List.mem_append_right _ h))
  have iX0 : ∀ w ∈ wsX00, w ∈ wsX1_passDay := fun _ h => List.mem_cons_of_mem _ (List.mem_append_right _ h)
  obtain ⟨h_mta, h_mtb⟩ := h_mt
  obtain ⟨h_lpea, h_lpeb⟩ := h_lpe
  obtain ⟨h_mda, h_mdb⟩ := h_md
  refine lv_iconst (v := 0) hx hb dX1_passDay_0 (by decide) ?_
  refine lv_istore_n (lv' := [(2, .int 0), (0, .ref h0), (1, .ref rd)]) hx hb dX1_passDay_1 rfl hl (by decide) rfl (fun ls hl => ?_)
  refine lv_aload_n hx hb dX1_passDay_2 rfl (lv_at hl 1 rfl) ?_
  refine lv_aload_n hx hb dX1_passDay_3 rfl (lv_at hl 2 rfl) ?_
  refine cV_v (As := [.ref rd]) (rest := []) ⟨hx, hb, hml, hown, hts⟩ (c_X1_findRides l D cI cZ cM h0 rd ln md mt mr mg mat mfd mhd lpe ltk lho lli lki lfd lfr lto lse lhl lFto lFfr lFki mFat mFfd mFhd Frd _ (show 0 ≤ mt.toInt ∧ mt.toInt ≤ 7 by omega) (show 0 ≤ lpe.toInt ∧ lpe.toInt ≤ 5 by omega)) (cwV 1 hts gX1_passDay_X1_findRides rfl rfl rfl (by decide +kernel) ⟨by rw [hR]; decide, by rw [hR]; decide⟩) hK hP hD hS hA [0, 1, 2, 3, 4, 5, 6, 7, 8] [] rfl rfl (by decide) (by decide) (by decide) rfl 0 rfl hl.1 rfl rfl (Nat.le_of_ble_eq_true rfl) dX1_passDay_4 ⟨by rw [hR]; decide, by rw [hR]; decide⟩ (fun u_3 H locs hw hP hD hS => ?_)
  obtain ⟨Grd_1, rfl⟩ : ∃ z, z = u_3 := ⟨_, rfl⟩
  have hP : va_P D vwCl [(h0, .inr (1, [.ref ln, .int md, .int mt, .int mr, .int mg, .ref mat, .ref mfd, .ref mhd])), (ln, .inr (0, [.int lpe, .int ltk, .ref lho, .ref lli, .ref lki, .ref lfd, .ref lfr, .ref lto, .ref lse, .ref lhl])), (lto, .inl (cI, 7, .inl lFto)), (lfr, .inl (cI, 7, .inl lFfr)), (lki, .inl (cI, 5, .inl lFki)), (mat, .inl (cI, 5, .inl mFat)), (mfd, .inl (cI, 7, .inl mFfd)), (mhd, .inl (cI, 7, .inl mFhd)), (rd, .inl (cI, 5, .inl Grd_1))] H := hP.sub [0, 1, 2, 3, 4, 5, 6, 7, 8] rfl
  have hD : va_D A [(h0, .inr (1, [.ref ln, .int md, .int mt, .int mr, .int mg, .ref mat, .ref mfd, .ref mhd])), (ln, .inr (0, [.int lpe, .int ltk, .ref lho, .ref lli, .ref lki, .ref lfd, .ref lfr, .ref lto, .ref lse, .ref lhl])), (lto, .inl (cI, 7, .inl lFto)), (lfr, .inl (cI, 7, .inl lFfr)), (lki, .inl (cI, 5, .inl lFki)), (mat, .inl (cI, 5, .inl mFat)), (mfd, .inl (cI, 7, .inl mFfd)), (mhd, .inl (cI, 7, .inl mFhd)), (rd, .inl (cI, 5, .inl Grd_1))] := hD.sub [0, 1, 2, 3, 4, 5, 6, 7, 8] (by decide) rfl
  refine W.widen (k := 0) (n := 0) (Nat.le_refl _) (Nat.le_refl _) ?_
  refine lv_iconst (v := 0) hx hb dX1_passDay_7 (by decide) ?_
  refine lv_istore_n (lv' := [(3, .int 0), (2, .int 0), (0, .ref h0), (1, .ref rd)]) hx hb dX1_passDay_8 rfl hl (by decide) rfl (fun ls hl => ?_)
  have LOOP_4 : ∀ (fu : Nat) (w2 : Int32) (x3 : Int32) (nr : Int32) (ng : Int32) (nat : Nat → Int32) (nfd : Nat → Int32) (nhd : Nat → Int32) (H : Heap) (locs : List Loc) (ls : Array Slot), (5 - x3.toInt).toNat < fu → (0 ≤ x3.toInt ∧ x3.toInt ≤ 5) → (lpe.toInt = 0 → w2.toInt = 0) → va_P D vwCl [(h0, .inr (1, [.ref ln, .int md, .int mt, .int nr, .int ng, .ref mat, .ref mfd, .ref mhd])), (ln, .inr (0, [.int lpe, .int ltk, .ref lho, .ref lli, .ref lki, .ref lfd, .ref lfr, .ref lto, .ref lse, .ref lhl])), (lto, .inl (cI, 7, .inl lFto)), (lfr, .inl (cI, 7, .inl lFfr)), (lki, .inl (cI, 5, .inl lFki)), (mat, .inl (cI, 5, .inl nat)), (mfd, .inl (cI, 7, .inl nfd)), (mhd, .inl (cI, 7, .inl nhd)), (rd, .inl (cI, 5, .inl Grd_1))] H → va_D A [(h0, .inr (1, [.ref ln, .int md, .int mt, .int nr, .int ng, .ref mat, .ref mfd, .ref mhd])), (ln, .inr (0, [.int lpe, .int ltk, .ref lho, .ref lli, .ref lki, .ref lfd, .ref lfr, .ref lto, .ref lse, .ref lhl])), (lto, .inl (cI, 7, .inl lFto)), (lfr, .inl (cI, 7, .inl lFfr)), (lki, .inl (cI, 5, .inl lFki)), (mat, .inl (cI, 5, .inl nat)), (mfd, .inl (cI, 7, .inl nfd)), (mhd, .inl (cI, 7, .inl nhd)), (rd, .inl (cI, 5, .inl Grd_1))] → va_S A s.heap H locs → lv_has ls 5 [(0, .ref h0), (1, .ref rd), (2, .int w2), (3, .int x3)] → W p l e R s m args below meth c H locs 0 0 Q (F0 m 9 ls []) := by
    intro fu
    induction fu with
    | zero => intro w2 x3 nr ng nat nfd nhd H locs ls hmu; exact absurd hmu (Nat.not_lt_zero _)
    | succ fu ih =>
      intro w2 x3 nr ng nat nfd nhd H locs ls hmu h_x3 hw0 hP hD hS hl
      obtain ⟨h_x3a, h_x3b⟩ := h_x3
      have ih_5 := ih
      clear ih
      refine lv_iload_n hx hb dX1_passDay_9 rfl (lv_at hl 3 rfl) ?_
      refine lv_aload_n hx hb dX1_passDay_10 rfl (lv_at hl 0 rfl) ?_
      refine va_get (D := D) (ci := 1) (v := .ref ln) (C := RX1) (T := TX1) (N := 8) hx hb hts iX1 hown hK hP 0 rfl rfl 0 (by decide) (hts (.fieldLink RX1 34 "PunchedTicket$Moment" "line" "LPunchedTicket$Line;") (List.mem_of_getElem? (i := 1) rfl)) (fun _ h9 => h9) rfl dX1_passDay_11 ?_
      refine va_get (D := D) (ci := 0) (v := .int lpe) (C := RX0) (T := TX0) (N := 10) hx hb hts iX0 hown hK hP 1 rfl rfl 0 (by decide) (hts (.fieldLink RX1 65 "PunchedTicket$Line" "people" "I") (List.mem_of_getElem? (i := 2) rfl)) (fun _ h9 => h9) rfl dX1_passDay_14 ?_
      refine lv_icmp_ge (tgt := 65) hx hb dX1_passDay_17 (by decide) (fun c_6 => ?_) (fun c_6 => ?_)
      · have tc_6 := b_le rfl rfl c_6
        refine lv_aload_n hx hb dX1_passDay_65 rfl (lv_at hl 0 rfl) ?_
        refine lv_dup hx hb dX1_passDay_66 rfl ?_
        refine va_get (D := D) (ci := 1) (v := .int md) (C := RX1) (T := TX1) (N := 8) hx hb hts iX1 hown hK hP 0 rfl rfl 1 (by decide) (hts (.fieldLink RX1 9 "PunchedTicket$Moment" "day" "I") (List.mem_of_getElem? (i := 4) rfl)) (fun _ h9 => h9) rfl dX1_passDay_67 ?_
        refine lv_iconst (v := 1) hx hb dX1_passDay_70 (by decide) ?_
        refine lv_iadd hx hb dX1_passDay_71 ?_
        refine lv_topi (fun v_7 ev_7 => ?_)
        have tv_7 : v_7.toInt = md.toInt + (1 : Int) := by rw [ev_7]; exact ti_add (x := md) (y := 1) (show -2147483648 ≤ md.toInt + (1 : Int) by omega) (show md.toInt + (1 : Int) < 2147483648 by omega)
        refine va_put (D := D) (ci := 1) (v := .int v_7) (ty := .int) (C := RX1) (T := TX1) (N := 8) hx hb hts iX1 tyX1 tyX1_ok nmX1 hown hK hP hD hS 0 rfl rfl 1 (by decide) (hts (.fieldLink RX1 9 "PunchedTicket$Moment" "day" "I") (List.mem_of_getElem? (i := 4) rfl)) (fun _ h9 => h9) rfl (by decide +kernel) rfl rfl (Nat.le_of_ble_eq_true rfl) dX1_passDay_72 (fun H locs hP hD hS => ?_)
        have hP : va_P D vwCl [(h0, .inr (1, [.ref ln, .int v_7, .int mt, .int nr, .int ng, .ref mat, .ref mfd, .ref mhd])), (ln, .inr (0, [.int lpe, .int ltk, .ref lho, .ref lli, .ref lki, .ref lfd, .ref lfr, .ref lto, .ref lse, .ref lhl])), (lto, .inl (cI, 7, .inl lFto)), (lfr, .inl (cI, 7, .inl lFfr)), (lki, .inl (cI, 5, .inl lFki)), (mat, .inl (cI, 5, .inl nat)), (mfd, .inl (cI, 7, .inl nfd)), (mhd, .inl (cI, 7, .inl nhd)), (rd, .inl (cI, 5, .inl Grd_1))] H := hP
        have hD : va_D A [(h0, .inr (1, [.ref ln, .int v_7, .int mt, .int nr, .int ng, .ref mat, .ref mfd, .ref mhd])), (ln, .inr (0, [.int lpe, .int ltk, .ref lho, .ref lli, .ref lki, .ref lfd, .ref lfr, .ref lto, .ref lse, .ref lhl])), (lto, .inl (cI, 7, .inl lFto)), (lfr, .inl (cI, 7, .inl lFfr)), (lki, .inl (cI, 5, .inl lFki)), (mat, .inl (cI, 5, .inl nat)), (mfd, .inl (cI, 7, .inl nfd)), (mhd, .inl (cI, 7, .inl nhd)), (rd, .inl (cI, 5, .inl Grd_1))] := hD
        refine lv_iload_n hx hb dX1_passDay_75 rfl (lv_at hl 2 rfl) ?_
        exact ret_i (post := (fun (r : Int32) (u : Int32 × Int32 × Int32 × (Nat → Int32) × (Nat → Int32) × (Nat → Int32) × (Nat → Int32)) => u.1.toInt = md.toInt + 1 ∧ (lpe.toInt = 0 → r.toInt = 0))) (W1 := (fun u => [(h0, .inr (1, [.ref ln, .int u.1, .int mt, .int u.2.1, .int u.2.2.1, .ref mat, .ref mfd, .ref mhd])), (ln, .inr (0, [.int lpe, .int ltk, .ref lho, .ref lli, .ref lki, .ref lfd, .ref lfr, .ref lto, .ref lse, .ref lhl])), (lto, .inl (cI, 7, .inl lFto)), (lfr, .inl (cI, 7, .inl lFfr)), (lki, .inl (cI, 5, .inl lFki)), (mat, .inl (cI, 5, .inl u.2.2.2.1)), (mfd, .inl (cI, 7, .inl u.2.2.2.2.1)), (mhd, .inl (cI, 7, .inl u.2.2.2.2.2.1)), (rd, .inl (cI, 5, .inl u.2.2.2.2.2.2))])) (v_7, nr, ng, nat, nfd, nhd, Grd_1) hx hb hr hlocks rfl hQ hK hP hD hS ⟨by decide, by decide⟩ dX1_passDay_76 (show v_7.toInt = md.toInt + 1 ∧ (lpe.toInt = 0 → w2.toInt = 0) by omega)
      · have tc_6 := b_nle rfl rfl c_6
        refine lv_aload_n hx hb dX1_passDay_20 rfl (lv_at hl 1 rfl) ?_
        refine lv_iload_n hx hb dX1_passDay_21 rfl (lv_at hl 3 rfl) ?_
        refine va_iald hx hb hK hP 8 0 rfl rfl (vp_in_iff.mpr ⟨by omega, by omega⟩) dX1_passDay_22 ?_
        refine lv_topi (fun v_8 ev_8 => ?_)
        refine lv_istore (lv' := [(4, .int v_8), (0, .ref h0), (1, .ref rd), (2, .int w2), (3, .int x3)]) hx hb dX1_passDay_23 hl (by decide) rfl (fun ls hl => ?_)
        refine lv_aload_n hx hb dX1_passDay_25 rfl (lv_at hl 1 rfl) ?_
        refine lv_iload hx hb dX1_passDay_26 (lv_at hl 0 rfl) ?_
        refine cV_i (As := [.int v_8]) (rest := []) ⟨hx, hb, hml, hown, hts⟩ (c_X1_hasTicket l D cI cZ cM h0 v_8 ln md mt nr ng mat mfd mhd _ ) (cwV 1 hts gX1_passDay_X1_hasTicket rfl rfl rfl (by decide +kernel) ⟨by rw [hR]; decide, by rw [hR]; decide⟩) hK hP hD hS hA [0] [1, 2, 3, 4, 5, 6, 7, 8] rfl rfl (by decide) (by decide) (by decide) rfl 0 rfl hl.1 rfl rfl (Nat.le_of_ble_eq_true rfl) dX1_passDay_28 ⟨by rw [hR]; decide, by rw [hR]; decide⟩ (fun r_9 u_10 H locs hw hP hD hS => ?_)
        have hP : va_P D vwCl [(h0, .inr (1, [.ref ln, .int md, .int mt, .int nr, .int ng, .ref mat, .ref mfd, .ref mhd])), (ln, .inr (0, [.int lpe, .int ltk, .ref lho, .ref lli, .ref lki, .ref lfd, .ref lfr, .ref lto, .ref lse, .ref lhl])), (lto, .inl (cI, 7, .inl lFto)), (lfr, .inl (cI, 7, .inl lFfr)), (lki, .inl (cI, 5, .inl lFki)), (mat, .inl (cI, 5, .inl nat)), (mfd, .inl (cI, 7, .inl nfd)), (mhd, .inl (cI, 7, .inl nhd)), (rd, .inl (cI, 5, .inl Grd_1))] H := hP.sub [8, 0, 1, 2, 3, 4, 5, 6, 7] rfl
        have hD : va_D A [(h0, .inr (1, [.ref ln, .int md, .int mt, .int nr, .int ng, .ref mat, .ref mfd, .ref mhd])), (ln, .inr (0, [.int lpe, .int ltk, .ref lho, .ref lli, .ref lki, .ref lfd, .ref lfr, .ref lto, .ref lse, .ref lhl])), (lto, .inl (cI, 7, .inl lFto)), (lfr, .inl (cI, 7, .inl lFfr)), (lki, .inl (cI, 5, .inl lFki)), (mat, .inl (cI, 5, .inl nat)), (mfd, .inl (cI, 7, .inl nfd)), (mhd, .inl (cI, 7, .inl nhd)), (rd, .inl (cI, 5, .inl Grd_1))] := hD.sub [8, 0, 1, 2, 3, 4, 5, 6, 7] (by decide) rfl
        refine W.widen (k := 0) (n := 0) (Nat.le_refl _) (Nat.le_refl _) ?_
        have hw : (r_9.toInt = 1 ∧ 0 ≤ v_8.toInt ∧ v_8.toInt < mt.toInt) ∨ (r_9.toInt = 0 ∧ (v_8.toInt < 0 ∨ mt.toInt ≤ v_8.toInt)) := hw
        have hw_11 := hw
        refine lv_if_eq (tgt := 59) hx hb dX1_passDay_31 (by decide) (fun c_12 => ?_) (fun c_12 => ?_)
        · have tc_12 := b_eq rfl (show (0 : Int32).toInt = 0 by decide) c_12
          obtain ⟨v_13, ev_13⟩ : ∃ z : Int32, z = x3 + 1 := ⟨_, rfl⟩
          have tv_13 : v_13.toInt = x3.toInt + 1 := by rw [ev_13]; exact ti_add (x := x3) (y := 1) (show -2147483648 ≤ x3.toInt + 1 by omega) (show x3.toInt + 1 < 2147483648 by omega)
          refine lv_iinc (v := v_13) (lv' := [(3, .int v_13), (4, .int v_8), (0, .ref h0), (1, .ref rd), (2, .int w2)]) hx hb dX1_passDay_59 hl (k := 4) rfl (by rw [ev_13]; rfl) (by decide) rfl (fun ls hl => ?_)
          refine lv_goto (tgt := 9) hx hb dX1_passDay_62 (by decide) ?_
          exact ih_5 w2 v_13 nr ng nat nfd nhd _ _ _ (show (5 - v_13.toInt).toNat < fu by omega) (show 0 ≤ v_13.toInt ∧ v_13.toInt ≤ 5 by omega) (show lpe.toInt = 0 → w2.toInt = 0 by omega) hP hD hS (lv_sub hl [2, 3, 4, 0] rfl)
        · have tc_12 := b_ne rfl (show (0 : Int32).toInt = 0 by decide) c_12
          refine lv_aload_n hx hb dX1_passDay_34 rfl (lv_at hl 1 rfl) ?_
          refine va_get (D := D) (ci := 1) (v := .ref mat) (C := RX1) (T := TX1) (N := 8) hx hb hts iX1 hown hK hP 0 rfl rfl 5 (by decide) (hts (.fieldLink RX1 24 "PunchedTicket$Moment" "at" "[I") (List.mem_of_getElem? (i := 3) rfl)) (fun _ h9 => h9) rfl dX1_passDay_35 ?_
          refine lv_iload_n hx hb dX1_passDay_38 rfl (lv_at hl 4 rfl) ?_
          refine lv_aload_n hx hb dX1_passDay_39 rfl (lv_at hl 1 rfl) ?_
          refine lv_iload hx hb dX1_passDay_40 (lv_at hl 0 rfl) ?_
          refine cV_i (As := [.int v_8]) (rest := [.int x3, .ref mat]) ⟨hx, hb, hml, hown, hts⟩ (c_X1_to l D cI cZ cM h0 v_8 ln md mt nr ng mat mfd mhd lpe ltk lho lli lki lfd lfr lto lse lhl lFto lFfr _ (show 0 ≤ v_8.toInt ∧ v_8.toInt ≤ 6 by omega)) (cwV 1 hts gX1_passDay_X1_to rfl rfl rfl (by decide +kernel) ⟨by rw [hR]; decide, by rw [hR]; decide⟩) hK hP hD hS hA [0, 1, 2, 3] [4, 5, 6, 7, 8] rfl rfl (by decide) (by decide) (by decide) rfl 0 rfl hl.1 rfl rfl (Nat.le_of_ble_eq_true rfl) dX1_passDay_42 ⟨by rw [hR]; decide, by rw [hR]; decide⟩ (fun r_14 u_15 H locs hw hP hD hS => ?_)
          have hP : va_P D vwCl [(h0, .inr (1, [.ref ln, .int md, .int mt, .int nr, .int ng, .ref mat, .ref mfd, .ref mhd])), (ln, .inr (0, [.int lpe, .int ltk, .ref lho, .ref lli, .ref lki, .ref lfd, .ref lfr, .ref lto, .ref lse, .ref lhl])), (lto, .inl (cI, 7, .inl lFto)), (lfr, .inl (cI, 7, .inl lFfr)), (lki, .inl (cI, 5, .inl lFki)), (mat, .inl (cI, 5, .inl nat)), (mfd, .inl (cI, 7, .inl nfd)), (mhd, .inl (cI, 7, .inl nhd)), (rd, .inl (cI, 5, .inl Grd_1))] H := hP.sub [5, 6, 7, 8, 0, 1, 2, 3, 4] rfl
          have hD : va_D A [(h0, .inr (1, [.ref ln, .int md, .int mt, .int nr, .int ng, .ref mat, .ref mfd, .ref mhd])), (ln, .inr (0, [.int lpe, .int ltk, .ref lho, .ref lli, .ref lki, .ref lfd, .ref lfr, .ref lto, .ref lse, .ref lhl])), (lto, .inl (cI, 7, .inl lFto)), (lfr, .inl (cI, 7, .inl lFfr)), (lki, .inl (cI, 5, .inl lFki)), (mat, .inl (cI, 5, .inl nat)), (mfd, .inl (cI, 7, .inl nfd)), (mhd, .inl (cI, 7, .inl nhd)), (rd, .inl (cI, 5, .inl Grd_1))] := hD.sub [5, 6, 7, 8, 0, 1, 2, 3, 4] (by decide) rfl
          refine W.widen (k := 0) (n := 0) (Nat.le_refl _) (Nat.le_refl _) ?_
          refine va_iast hx hb hK hP hD hS 5 0 rfl rfl (vp_in_iff.mpr ⟨by omega, by omega⟩) dX1_passDay_45 (fun H locs hP hD hS => ?_)
          obtain ⟨f_16, ef_16⟩ : ∃ g : Nat → Int32, upd nat (x3 : Int32).toNatClampNeg r_14 = g := ⟨_, rfl⟩
          rw [ef_16] at hP hD
          have hP : va_P D vwCl [(h0, .inr (1, [.ref ln, .int md, .int mt, .int nr, .int ng, .ref mat, .ref mfd, .ref mhd])), (ln, .inr (0, [.int lpe, .int ltk, .ref lho, .ref lli, .ref lki, .ref lfd, .ref lfr, .ref lto, .ref lse, .ref lhl])), (lto, .inl (cI, 7, .inl lFto)), (lfr, .inl (cI, 7, .inl lFfr)), (lki, .inl (cI, 5, .inl lFki)), (mat, .inl (cI, 5, .inl f_16)), (mfd, .inl (cI, 7, .inl nfd)), (mhd, .inl (cI, 7, .inl nhd)), (rd, .inl (cI, 5, .inl Grd_1))] H := hP
          have hD : va_D A [(h0, .inr (1, [.ref ln, .int md, .int mt, .int nr, .int ng, .ref mat, .ref mfd, .ref mhd])), (ln, .inr (0, [.int lpe, .int ltk, .ref lho, .ref lli, .ref lki, .ref lfd, .ref lfr, .ref lto, .ref lse, .ref lhl])), (lto, .inl (cI, 7, .inl lFto)), (lfr, .inl (cI, 7, .inl lFfr)), (lki, .inl (cI, 5, .inl lFki)), (mat, .inl (cI, 5, .inl f_16)), (mfd, .inl (cI, 7, .inl nfd)), (mhd, .inl (cI, 7, .inl nhd)), (rd, .inl (cI, 5, .inl Grd_1))] := hD
          refine lv_aload_n hx hb dX1_passDay_46 rfl (lv_at hl 1 rfl) ?_
          refine lv_iload hx hb dX1_passDay_47 (lv_at hl 0 rfl) ?_
          refine lv_iload_n hx hb dX1_passDay_49 rfl (lv_at hl 4 rfl) ?_
          refine cV_v (As := [.int v_8, .int x3]) (rest := []) ⟨hx, hb, hml, hown, hts⟩ (c_X1_useTicket l D cI cZ cM h0 v_8 x3 ln md mt nr ng mat mfd mhd lpe ltk lho lli lki lfd lfr lto lse lhl lFki nfd nhd _ (show 0 ≤ v_8.toInt ∧ v_8.toInt ≤ 6 by omega) (show 0 ≤ x3.toInt ∧ x3.toInt ≤ 4 by omega) (show 0 ≤ md.toInt ∧ md.toInt ≤ 9 by omega)) (cwV 2 hts gX1_passDay_X1_useTicket rfl rfl rfl (by decide +kernel) ⟨by rw [hR]; decide, by rw [hR]; decide⟩) hK hP hD hS hA [0, 1, 4, 6, 7] [2, 3, 5, 8] rfl rfl (by decide) (by decide) (by decide) rfl 0 rfl hl.1 rfl rfl (Nat.le_of_ble_eq_true rfl) dX1_passDay_50 ⟨by rw [hR]; decide, by rw [hR]; decide⟩ (fun u_22 H locs hw hP hD hS => ?_)
          obtain ⟨mr1_17, mg1_18, Gfd_19, Ghd_20⟩ := u_22
          have hP : va_P D vwCl [(h0, .inr (1, [.ref ln, .int md, .int mt, .int mr1_17, .int mg1_18, .ref mat, .ref mfd, .ref mhd])), (ln, .inr (0, [.int lpe, .int ltk, .ref lho, .ref lli, .ref lki, .ref lfd, .ref lfr, .ref lto, .ref lse, .ref lhl])), (lto, .inl (cI, 7, .inl lFto)), (lfr, .inl (cI, 7, .inl lFfr)), (lki, .inl (cI, 5, .inl lFki)), (mat, .inl (cI, 5, .inl f_16)), (mfd, .inl (cI, 7, .inl Gfd_19)), (mhd, .inl (cI, 7, .inl Ghd_20)), (rd, .inl (cI, 5, .inl Grd_1))] H := hP.sub [4, 5, 0, 1, 6, 2, 7, 8, 3] rfl
          have hD : va_D A [(h0, .inr (1, [.ref ln, .int md, .int mt, .int mr1_17, .int mg1_18, .ref mat, .ref mfd, .ref mhd])), (ln, .inr (0, [.int lpe, .int ltk, .ref lho, .ref lli, .ref lki, .ref lfd, .ref lfr, .ref lto, .ref lse, .ref lhl])), (lto, .inl (cI, 7, .inl lFto)), (lfr, .inl (cI, 7, .inl lFfr)), (lki, .inl (cI, 5, .inl lFki)), (mat, .inl (cI, 5, .inl f_16)), (mfd, .inl (cI, 7, .inl Gfd_19)), (mhd, .inl (cI, 7, .inl Ghd_20)), (rd, .inl (cI, 5, .inl Grd_1))] := hD.sub [4, 5, 0, 1, 6, 2, 7, 8, 3] (by decide) rfl
          refine W.widen (k := 0) (n := 0) (Nat.le_refl _) (Nat.le_refl _) ?_
          refine lv_iload_n hx hb dX1_passDay_53 rfl (lv_at hl 3 rfl) ?_
          refine lv_iconst (v := 1) hx hb dX1_passDay_54 (by decide) ?_
          refine lv_iload_n hx hb dX1_passDay_55 rfl (lv_at hl 4 rfl) ?_
          refine lv_ishl hx hb dX1_passDay_56 ?_
          refine lv_topi (fun v_23 ev_23 => ?_)
          refine lv_ior hx hb dX1_passDay_57 ?_
          refine lv_topi (fun v_24 ev_24 => ?_)
          refine lv_istore_n (lv' := [(2, .int v_24), (4, .int v_8), (0, .ref h0), (1, .ref rd), (3, .int x3)]) hx hb dX1_passDay_58 rfl hl (by decide) rfl (fun ls hl => ?_)
          obtain ⟨v_25, ev_25⟩ : ∃ z : Int32, z = x3 + 1 := ⟨_, rfl⟩
          have tv_25 : v_25.toInt = x3.toInt + 1 := by rw [ev_25]; exact ti_add (x := x3) (y := 1) (show -2147483648 ≤ x3.toInt + 1 by omega) (show x3.toInt + 1 < 2147483648 by omega)
          refine lv_iinc (v := v_25) (lv' := [(3, .int v_25), (2, .int v_24), (4, .int v_8), (0, .ref h0), (1, .ref rd)]) hx hb dX1_passDay_59 hl (k := 4) rfl (by rw [ev_25]; rfl) (by decide) rfl (fun ls hl => ?_)
          refine lv_goto (tgt := 9) hx hb dX1_passDay_62 (by decide) ?_
          exact ih_5 v_24 v_25 mr1_17 mg1_18 f_16 Gfd_19 Ghd_20 _ _ _ (show (5 - v_25.toInt).toNat < fu by omega) (show 0 ≤ v_25.toInt ∧ v_25.toInt ≤ 5 by omega) (show lpe.toInt = 0 → v_24.toInt = 0 by omega) hP hD hS (lv_sub hl [3, 4, 1, 0] rfl)
  exact LOOP_4 _ 0 0 mr mg mFat mFfd mFhd _ _ _ (Nat.lt_succ_self _) (by decide) (show lpe.toInt = 0 → (0 : Int) = 0 by omega) hP hD hS (lv_sub hl [2, 3, 1, 0] rfl)

set_option maxHeartbeats 600000 in
set_option maxRecDepth 100000 in
theorem c_X1_gladNow (l : Launch) (D : va_G) (cI cZ cM : ClassId) (h0 : Nat) (ln : Nat) (md : Int32) (mt : Int32) (mr : Int32) (mg : Int32) (mat : Nat) (mfd : Nat) (mhd : Nat) (lpe : Int32) (ltk : Int32) (lho : Nat) (lli : Nat) (lki : Nat) (lfd : Nat) (lfr : Nat) (lto : Nat) (lse : Nat) (lhl : Nat) (lFli : Nat → Int32) (mFat : Nat → Int32) (sz : Nat) (h_lpe : 0 ≤ lpe.toInt ∧ lpe.toInt ≤ 5) : Ci l yX1_gladNow wsX1_gladNow ({ frames := 0, cells := 0, slots := 0, locals := 0 } : Room) D cI cZ cM [.ref h0] [(h0, .inr (1, [.ref ln, .int md, .int mt, .int mr, .int mg, .ref mat, .ref mfd, .ref mhd])), (ln, .inr (0, [.int lpe, .int ltk, .ref lho, .ref lli, .ref lki, .ref lfd, .ref lfr, .ref lto, .ref lse, .ref lhl])), (lli, .inl (cI, 5, .inl lFli)), (mat, .inl (cI, 5, .inl mFat))] sz (fun (r : Int32) (u : Unit) => 0 ≤ r.toInt ∧ r.toInt ≤ lpe.toInt) (fun u => [(h0, .inr (1, [.ref ln, .int md, .int mt, .int mr, .int mg, .ref mat, .ref mfd, .ref mhd])), (ln, .inr (0, [.int lpe, .int ltk, .ref lho, .ref lli, .ref lki, .ref lfd, .ref lfr, .ref lto, .ref lse, .ref lhl])), (lli, .inl (cI, 5, .inl lFli)), (mat, .inl (cI, 5, .inl mFat))]) 0 0 := by
  refine begins (l := l) (y := yX1_gladNow) (ws := wsX1_gladNow) (av := [.ref h0]) (Qc := fun A => va_Qi (fun (r : Int32) (u : Unit) => 0 ≤ r.toInt ∧ r.toInt ≤ lpe.toInt) (fun u => Wd D cI cZ cM A ((fun u => [(h0, .inr (1, [.ref ln, .int md, .int mt, .int mr, .int mg, .ref mat, .ref mfd, .ref mhd])), (ln, .inr (0, [.int lpe, .int ltk, .ref lho, .ref lli, .ref lki, .ref lfd, .ref lfr, .ref lto, .ref lse, .ref lhl])), (lli, .inl (cI, 5, .inl lFli)), (mat, .inl (cI, 5, .inl mFat))]) u)) A) cX1_gladNow 3 (some .int) (by decide) rfl (Nat.le_of_ble_eq_true rfl) ?_
  intro p e s m args below meth c R Q A ls hBd hR hQ hA hS hK hP hD hl
  obtain ⟨hx, hb, hr, hts, hown, hlocks, hin, hml⟩ := hBd
  have hl : lv_has ls 3 [(0, .ref h0)] := hl
  have iX1 : ∀ w ∈ wsX10, w ∈ wsX1_gladNow := fun _ h => List.mem_cons_of_mem _ (List.mem_append_left _ (List.mem_append_right _ h))
  have iX0 : ∀ w ∈ wsX00, w ∈ wsX1_gladNow := fun _ h => List.mem_cons_of_mem _ (List.mem_append_right _ h)
  obtain ⟨h_lpea, h_lpeb⟩ := h_lpe
  refine lv_iconst (v := 0) hx hb dX1_gladNow_0 (by decide) ?_
  refine lv_istore_n (lv' := [(1, .int 0), (0, .ref h0)]) hx hb dX1_gladNow_1 rfl hl (by decide) rfl (fun ls hl => ?_)
  refine lv_iconst (v := 0) hx hb dX1_gladNow_2 (by decide) ?_
  refine lv_istore_n (lv' := [(2, .int 0), (1, .int 0), (0, .ref h0)]) hx hb dX1_gladNow_3 rfl hl (by decide) rfl (fun ls hl => ?_)
  have LOOP_1 : ∀ (fu : Nat) (g1 : Int32) (x2 : Int32) (H : Heap) (locs : List Loc) (ls : Array Slot), (5 - x2.toInt).toNat < fu → (0 ≤ g1.toInt ∧ g1.toInt ≤ 5) → (0 ≤ x2.toInt ∧ x2.toInt ≤ 5) → (g1.toInt ≤ x2.toInt) → (x2.toInt ≤ lpe.toInt) → va_P D vwCl [(h0, .inr (1, [.ref ln, .int md, .int mt, .int mr, .int mg, .ref mat, .ref mfd, .ref mhd])), (ln, .inr (0, [.int lpe, .int ltk, .ref lho, .ref lli, .ref lki, .ref lfd, .ref lfr, .ref lto, .ref lse, .ref lhl])), (lli, .inl (cI, 5, .inl lFli)), (mat, .inl (cI, 5, .inl mFat))] H → va_D A [(h0, .inr (1, [.ref ln, .int md, .int mt, .int mr, .int mg, .ref mat, .ref mfd, .ref mhd])), (ln, .inr (0, [.int lpe, .int ltk, .ref lho, .ref lli, .ref lki, .ref lfd, .ref lfr, .ref lto, .ref lse, .ref lhl])), (lli, .inl (cI, 5, .inl lFli)), (mat, .inl (cI, 5, .inl mFat))] → va_S A s.heap H locs → lv_has ls 3 [(0, .ref h0), (1, .int g1), (2, .int x2)] → W p l e R s m args below meth c H locs 0 0 Q (F0 m 4 ls []) := by
    intro fu
    induction fu with
    | zero => intro g1 x2 H locs ls hmu; exact absurd hmu (Nat.not_lt_zero _)
    | succ fu ih =>
      intro g1 x2 H locs ls hmu h_g1 h_x2 hg hx2 hP hD hS hl
      obtain ⟨h_g1a, h_g1b⟩ := h_g1
      obtain ⟨h_x2a, h_x2b⟩ := h_x2
      have ih_2 := ih
      clear ih
      refine lv_iload_n hx hb dX1_gladNow_4 rfl (lv_at hl 2 rfl) ?_
      refine lv_aload_n hx hb dX1_gladNow_5 rfl (lv_at hl 0 rfl) ?_
      refine va_get (D := D) (ci := 1) (v := .ref ln) (C := RX1) (T := TX1) (N := 8) hx hb hts iX1 hown hK hP 0 rfl rfl 0 (by decide) (hts (.fieldLink RX1 34 "PunchedTicket$Moment" "line" "LPunchedTicket$Line;") (List.mem_of_getElem? (i := 1) rfl)) (fun _ h9 => h9) rfl dX1_gladNow_6 ?_
      refine va_get (D := D) (ci := 0) (v := .int lpe) (C := RX0) (T := TX0) (N := 10) hx hb hts iX0 hown hK hP 1 rfl rfl 0 (by decide) (hts (.fieldLink RX1 65 "PunchedTicket$Line" "people" "I") (List.mem_of_getElem? (i := 2) rfl)) (fun _ h9 => h9) rfl dX1_gladNow_9 ?_
      refine lv_icmp_ge (tgt := 42) hx hb dX1_gladNow_12 (by decide) (fun c_3 => ?_) (fun c_3 => ?_)
      · have tc_3 := b_le rfl rfl c_3
        refine lv_iload_n hx hb dX1_gladNow_42 rfl (lv_at hl 1 rfl) ?_
        exact ret_i (post := (fun (r : Int32) (u : Unit) => 0 ≤ r.toInt ∧ r.toInt ≤ lpe.toInt)) (W1 := (fun u => [(h0, .inr (1, [.ref ln, .int md, .int mt, .int mr, .int mg, .ref mat, .ref mfd, .ref mhd])), (ln, .inr (0, [.int lpe, .int ltk, .ref lho, .ref lli, .ref lki, .ref lfd, .ref lfr, .ref lto, .ref lse, .ref lhl])), (lli, .inl (cI, 5, .inl lFli)), (mat, .inl (cI, 5, .inl mFat))])) () hx hb hr hlocks rfl hQ hK hP hD hS ⟨by decide, by decide⟩ dX1_gladNow_43 (show 0 ≤ g1.toInt ∧ g1.toInt ≤ lpe.toInt by omega)
      · have tc_3 := b_nle rfl rfl c_3
        refine lv_aload_n hx hb dX1_gladNow_15 rfl (lv_at hl 0 rfl) ?_
        refine va_get (D := D) (ci := 1) (v := .ref mat) (C := RX1) (T := TX1) (N := 8) hx hb hts iX1 hown hK hP 0 rfl rfl 5 (by decide) (hts (.fieldLink RX1 24 "PunchedTicket$Moment" "at" "[I") (List.mem_of_getElem? (i := 3) rfl)) (fun _ h9 => h9) rfl dX1_gladNow_16 ?_
        refine lv_iload_n hx hb dX1_gladNow_19 rfl (lv_at hl 2 rfl) ?_
        refine va_iald hx hb hK hP 3 0 rfl rfl (vp_in_iff.mpr ⟨by omega, by omega⟩) dX1_gladNow_20 ?_
        refine lv_topi (fun v_4 ev_4 => ?_)
        refine lv_aload_n hx hb dX1_gladNow_21 rfl (lv_at hl 0 rfl) ?_
        refine va_get (D := D) (ci := 1) (v := .ref ln) (C := RX1) (T := TX1) (N := 8) hx hb hts iX1 hown hK hP 0 rfl rfl 0 (by decide) (hts (.fieldLink RX1 34 "PunchedTicket$Moment" "line" "LPunchedTicket$Line;") (List.mem_of_getElem? (i := 1) rfl)) (fun _ h9 => h9) rfl dX1_gladNow_22 ?_
        refine va_get (D := D) (ci := 0) (v := .ref lli) (C := RX0) (T := TX0) (N := 10) hx hb hts iX0 hown hK hP 1 rfl rfl 3 (by decide) (hts (.fieldLink RX1 68 "PunchedTicket$Line" "liked" "[I") (List.mem_of_getElem? (i := 4) rfl)) (fun _ h9 => h9) rfl dX1_gladNow_25 ?_
        refine lv_iload_n hx hb dX1_gladNow_28 rfl (lv_at hl 2 rfl) ?_
        refine va_iald hx hb hK hP 2 0 rfl rfl (vp_in_iff.mpr ⟨by omega, by omega⟩) dX1_gladNow_29 ?_
        refine lv_topi (fun v_5 ev_5 => ?_)
        refine lv_icmp_ne (tgt := 36) hx hb dX1_gladNow_30 (by decide) (fun c_6 => ?_) (fun c_6 => ?_)
        · have tc_6 := b_ne rfl rfl c_6
          obtain ⟨v_7, ev_7⟩ : ∃ z : Int32, z = x2 + 1 := ⟨_, rfl⟩
          have tv_7 : v_7.toInt = x2.toInt + 1 := by rw [ev_7]; exact ti_add (x := x2) (y := 1) (show -2147483648 ≤ x2.toInt + 1 by omega) (show x2.toInt + 1 < 2147483648 by omega)
          refine lv_iinc (v := v_7) (lv' := [(2, .int v_7), (0, .ref h0), (1, .int g1)]) hx hb dX1_gladNow_36 hl (k := 2) rfl (by rw [ev_7]; rfl) (by decide) rfl (fun ls hl => ?_)
          refine lv_goto (tgt := 4) hx hb dX1_gladNow_39 (by decide) ?_
          exact ih_2 g1 v_7 _ _ _ (show (5 - v_7.toInt).toNat < fu by omega) (show 0 ≤ g1.toInt ∧ g1.toInt ≤ 5 by omega) (show 0 ≤ v_7.toInt ∧ v_7.toInt ≤ 5 by omega) (show g1.toInt ≤ v_7.toInt by omega) (show v_7.toInt ≤ lpe.toInt by omega) hP hD hS (lv_sub hl [1, 2, 0] rfl)
        · have tc_6 := b_eq rfl rfl c_6
          obtain ⟨v_8, ev_8⟩ : ∃ z : Int32, z = g1 + 1 := ⟨_, rfl⟩
          have tv_8 : v_8.toInt = g1.toInt + 1 := by rw [ev_8]; exact ti_add (x := g1) (y := 1) (show -2147483648 ≤ g1.toInt + 1 by omega) (show g1.toInt + 1 < 2147483648 by omega)
          refine lv_iinc (v := v_8) (lv' := [(1, .int v_8), (0, .ref h0), (2, .int x2)]) hx hb dX1_gladNow_33 hl (k := 1) rfl (by rw [ev_8]; rfl) (by decide) rfl (fun ls hl => ?_)
          obtain ⟨v_9, ev_9⟩ : ∃ z : Int32, z = x2 + 1 := ⟨_, rfl⟩
          have tv_9 : v_9.toInt = x2.toInt + 1 := by rw [ev_9]; exact ti_add (x := x2) (y := 1) (show -2147483648 ≤ x2.toInt + 1 by omega) (show x2.toInt + 1 < 2147483648 by omega)
          refine lv_iinc (v := v_9) (lv' := [(2, .int v_9), (1, .int v_8), (0, .ref h0)]) hx hb dX1_gladNow_36 hl (k := 2) rfl (by rw [ev_9]; rfl) (by decide) rfl (fun ls hl => ?_)
          refine lv_goto (tgt := 4) hx hb dX1_gladNow_39 (by decide) ?_
          exact ih_2 v_8 v_9 _ _ _ (show (5 - v_9.toInt).toNat < fu by omega) (show 0 ≤ v_8.toInt ∧ v_8.toInt ≤ 5 by omega) (show 0 ≤ v_9.toInt ∧ v_9.toInt ≤ 5 by omega) (show v_8.toInt ≤ v_9.toInt by omega) (show v_9.toInt ≤ lpe.toInt by omega) hP hD hS (lv_sub hl [2, 1, 0] rfl)
  exact LOOP_1 _ 0 0 _ _ _ (Nat.lt_succ_self _) (by decide) (by decide) (by decide) (show (0 : Int) ≤ lpe.toInt by omega) hP hD hS (lv_sub hl [2, 1, 0] rfl)
end
section
theorem dX0_init_0 : decode cX0_init 0 = .ok (.aload_n 0, 1) := by decide +kernel
theorem dX0_init_1 : decode cX0_init 1 = .ok (.invokespecial 3, 3) := by decide +kernel
theorem dX0_init_4 : decode cX0_init 4 = .ok (.aload_n 0, 1) := by decide +kernel
theorem dX0_init_5 : decode cX0_init 5 = .ok (.iconst 0, 1) := by decide +kernel
theorem dX0_init_6 : decode cX0_init 6 = .ok (.putfield 9, 3) := by decide +kernel
theorem dX0_init_9 : decode cX0_init 9 = .ok (.aload_n 0, 1) := by decide +kernel
theorem dX0_init_10 : decode cX0_init 10 = .ok (.iconst 0, 1) := by decide +kernel
theorem dX0_init_11 : decode cX0_init 11 = .ok (.putfield 15, 3) := by decide +kernel
theorem dX0_init_14 : decode cX0_init 14 = .ok (.aload_n 0, 1) := by decide +kernel
theorem dX0_init_15 : decode cX0_init 15 = .ok (.iconst 5, 1) := by decide +kernel
theorem dX0_init_16 : decode cX0_init 16 = .ok (.newarray .int, 2) := by decide +kernel
theorem dX0_init_18 : decode cX0_init 18 = .ok (.putfield 18, 3) := by decide +kernel
theorem dX0_init_21 : decode cX0_init 21 = .ok (.aload_n 0, 1) := by decide +kernel
theorem dX0_init_22 : decode cX0_init 22 = .ok (.iconst 5, 1) := by decide +kernel
theorem dX0_init_23 : decode cX0_init 23 = .ok (.newarray .int, 2) := by decide +kernel
theorem dX0_init_25 : decode cX0_init 25 = .ok (.putfield 22, 3) := by decide +kernel
theorem dX0_init_28 : decode cX0_init 28 = .ok (.aload_n 0, 1) := by decide +kernel
theorem dX0_init_29 : decode cX0_init 29 = .ok (.iconst 5, 1) := by decide +kernel
theorem dX0_init_30 : decode cX0_init 30 = .ok (.newarray .int, 2) := by decide +kernel
theorem dX0_init_32 : decode cX0_init 32 = .ok (.putfield 25, 3) := by decide +kernel
theorem dX0_init_35 : decode cX0_init 35 = .ok (.aload_n 0, 1) := by decide +kernel
theorem dX0_init_36 : decode cX0_init 36 = .ok (.bipush 7, 2) := by decide +kernel
theorem dX0_init_38 : decode cX0_init 38 = .ok (.newarray .int, 2) := by decide +kernel
theorem dX0_init_40 : decode cX0_init 40 = .ok (.putfield 28, 3) := by decide +kernel
theorem dX0_init_43 : decode cX0_init 43 = .ok (.aload_n 0, 1) := by decide +kernel
theorem dX0_init_44 : decode cX0_init 44 = .ok (.bipush 7, 2) := by decide +kernel
theorem dX0_init_46 : decode cX0_init 46 = .ok (.newarray .int, 2) := by decide +kernel
theorem dX0_init_48 : decode cX0_init 48 = .ok (.putfield 31, 3) := by decide +kernel
theorem dX0_init_51 : decode cX0_init 51 = .ok (.aload_n 0, 1) := by decide +kernel
theorem dX0_init_52 : decode cX0_init 52 = .ok (.bipush 7, 2) := by decide +kernel
theorem dX0_init_54 : decode cX0_init 54 = .ok (.newarray .int, 2) := by decide +kernel
theorem dX0_init_56 : decode cX0_init 56 = .ok (.putfield 34, 3) := by decide +kernel
theorem dX0_init_59 : decode cX0_init 59 = .ok (.aload_n 0, 1) := by decide +kernel
theorem dX0_init_60 : decode cX0_init 60 = .ok (.bipush 7, 2) := by decide +kernel
theorem dX0_init_62 : decode cX0_init 62 = .ok (.newarray .int, 2) := by decide +kernel
theorem dX0_init_64 : decode cX0_init 64 = .ok (.putfield 37, 3) := by decide +kernel
theorem dX0_init_67 : decode cX0_init 67 = .ok (.aload_n 0, 1) := by decide +kernel
theorem dX0_init_68 : decode cX0_init 68 = .ok (.bipush 7, 2) := by decide +kernel
theorem dX0_init_70 : decode cX0_init 70 = .ok (.newarray .int, 2) := by decide +kernel
theorem dX0_init_72 : decode cX0_init 72 = .ok (.putfield 40, 3) := by decide +kernel
theorem dX0_init_75 : decode cX0_init 75 = .ok (.return_, 1) := by decide +kernel
theorem dX1_init_0 : decode cX1_init 0 = .ok (.aload_n 0, 1) := by decide +kernel
theorem dX1_init_1 : decode cX1_init 1 = .ok (.invokespecial 3, 3) := by decide +kernel
theorem dX1_init_4 : decode cX1_init 4 = .ok (.aload_n 0, 1) := by decide +kernel
theorem dX1_init_5 : decode cX1_init 5 = .ok (.iconst 0, 1) := by decide +kernel
theorem dX1_init_6 : decode cX1_init 6 = .ok (.putfield 9, 3) := by decide +kernel
theorem dX1_init_9 : decode cX1_init 9 = .ok (.aload_n 0, 1) := by decide +kernel
theorem dX1_init_10 : decode cX1_init 10 = .ok (.iconst 0, 1) := by decide +kernel
theorem dX1_init_11 : decode cX1_init 11 = .ok (.putfield 15, 3) := by decide +kernel
theorem dX1_init_14 : decode cX1_init 14 = .ok (.aload_n 0, 1) := by decide +kernel
theorem dX1_init_15 : decode cX1_init 15 = .ok (.iconst 0, 1) := by decide +kernel
theorem dX1_init_16 : decode cX1_init 16 = .ok (.putfield 18, 3) := by decide +kernel
theorem dX1_init_19 : decode cX1_init 19 = .ok (.aload_n 0, 1) := by decide +kernel
theorem dX1_init_20 : decode cX1_init 20 = .ok (.iconst 0, 1) := by decide +kernel
theorem dX1_init_21 : decode cX1_init 21 = .ok (.putfield 21, 3) := by decide +kernel
theorem dX1_init_24 : decode cX1_init 24 = .ok (.aload_n 0, 1) := by decide +kernel
theorem dX1_init_25 : decode cX1_init 25 = .ok (.iconst 5, 1) := by decide +kernel
theorem dX1_init_26 : decode cX1_init 26 = .ok (.newarray .int, 2) := by decide +kernel
theorem dX1_init_28 : decode cX1_init 28 = .ok (.putfield 24, 3) := by decide +kernel
theorem dX1_init_31 : decode cX1_init 31 = .ok (.aload_n 0, 1) := by decide +kernel
theorem dX1_init_32 : decode cX1_init 32 = .ok (.bipush 7, 2) := by decide +kernel
theorem dX1_init_34 : decode cX1_init 34 = .ok (.newarray .int, 2) := by decide +kernel
theorem dX1_init_36 : decode cX1_init 36 = .ok (.putfield 28, 3) := by decide +kernel
theorem dX1_init_39 : decode cX1_init 39 = .ok (.aload_n 0, 1) := by decide +kernel
theorem dX1_init_40 : decode cX1_init 40 = .ok (.bipush 7, 2) := by decide +kernel
theorem dX1_init_42 : decode cX1_init 42 = .ok (.newarray .int, 2) := by decide +kernel
theorem dX1_init_44 : decode cX1_init 44 = .ok (.putfield 31, 3) := by decide +kernel
theorem dX1_init_47 : decode cX1_init 47 = .ok (.aload_n 0, 1) := by decide +kernel
theorem dX1_init_48 : decode cX1_init 48 = .ok (.aload_n 1, 1) := by decide +kernel
theorem dX1_init_49 : decode cX1_init 49 = .ok (.putfield 34, 3) := by decide +kernel
theorem dX1_init_52 : decode cX1_init 52 = .ok (.return_, 1) := by decide +kernel
set_option maxRecDepth 20000 in
theorem ggX2_init_X1_init : GoodIn wsX2_init wsX1_init := goodIn_r _ [13, 14, 2, 3, 15, 16, 17, 18, 4, 19, 20, 21, 22, 26, 27, 28, 29, 30, 31, 32, 33] (by decide +kernel) (by decide +kernel)
set_option maxRecDepth 20000 in
theorem gX2_init_X1_init : GoodIn wsX2_init (wsX1_init) := ggX2_init_X1_init
theorem dX2_init_0 : decode cX2_init 0 = .ok (.aload_n 0, 1) := by decide +kernel
theorem dX2_init_1 : decode cX2_init 1 = .ok (.invokespecial 3, 3) := by decide +kernel
theorem dX2_init_4 : decode cX2_init 4 = .ok (.aload_n 0, 1) := by decide +kernel
theorem dX2_init_5 : decode cX2_init 5 = .ok (.iconst 5, 1) := by decide +kernel
theorem dX2_init_6 : decode cX2_init 6 = .ok (.newarray .int, 2) := by decide +kernel
theorem dX2_init_8 : decode cX2_init 8 = .ok (.putfield 9, 3) := by decide +kernel
theorem dX2_init_11 : decode cX2_init 11 = .ok (.aload_n 0, 1) := by decide +kernel
theorem dX2_init_12 : decode cX2_init 12 = .ok (.aload_n 1, 1) := by decide +kernel
theorem dX2_init_13 : decode cX2_init 13 = .ok (.putfield 15, 3) := by decide +kernel
theorem dX2_init_16 : decode cX2_init 16 = .ok (.aload_n 0, 1) := by decide +kernel
theorem dX2_init_17 : decode cX2_init 17 = .ok (.new 19, 3) := by decide +kernel
theorem dX2_init_20 : decode cX2_init 20 = .ok (.dup, 1) := by decide +kernel
theorem dX2_init_21 : decode cX2_init 21 = .ok (.aload_n 1, 1) := by decide +kernel
theorem dX2_init_22 : decode cX2_init 22 = .ok (.invokespecial 21, 3) := by decide +kernel
theorem dX2_init_25 : decode cX2_init 25 = .ok (.putfield 24, 3) := by decide +kernel
theorem dX2_init_28 : decode cX2_init 28 = .ok (.return_, 1) := by decide +kernel
set_option maxHeartbeats 600000 in
set_option maxRecDepth 100000 in
theorem c_X0_init (l : Launch) (D : va_G) (cI cZ cM : ClassId) (h0 : Nat) (sz : Nat)  : Cv l yX0_init wsX0_init ({ frames := 1, cells := 8, slots := 50, locals := 12 } : Room) D cI cZ cM [.ref h0] [(h0, .inr (0, [.int 0, .int 0, .null, .null, .null, .null, .null, .null, .null, .null]))] sz (fun (u : Nat × Nat × Nat × Nat × Nat × Nat × Nat × Nat) => True) (fun u => [(h0, .inr (0, [.int 0, .int 0, .ref u.1, .ref u.2.1, .ref u.2.2.1, .ref u.2.2.2.1, .ref u.2.2.2.2.1, .ref u.2.2.2.2.2.1, .ref u.2.2.2.2.2.2.1, .ref u.2.2.2.2.2.2.2])), (u.1, .inl (cI, 5, .inl (fun _ => 0))), (u.2.1, .inl (cI, 5, .inl (fun _ => 0))), (u.2.2.1, .inl (cI, 5, .inl (fun _ => 0))), (u.2.2.2.1, .inl (cI, 7, .inl (fun _ => 0))), (u.2.2.2.2.1, .inl (cI, 7, .inl (fun _ => 0))), (u.2.2.2.2.2.1, .inl (cI, 7, .inl (fun _ => 0))), (u.2.2.2.2.2.2.1, .inl (cI, 7, .inl (fun _ => 0))), (u.2.2.2.2.2.2.2, .inl (cI, 7, .inl (fun _ => 0)))]) 8 50 := by
  refine begins (l := l) (y := yX0_init) (ws := wsX0_init) (av := [.ref h0]) (Qc := fun A => va_Qv (fun (u : Nat × Nat × Nat × Nat × Nat × Nat × Nat × Nat) => True) (fun u => Wd D cI cZ cM A ((fun u => [(h0, .inr (0, [.int 0, .int 0, .ref u.1, .ref u.2.1, .ref u.2.2.1, .ref u.2.2.2.1, .ref u.2.2.2.2.1, .ref u.2.2.2.2.2.1, .ref u.2.2.2.2.2.2.1, .ref u.2.2.2.2.2.2.2])), (u.1, .inl (cI, 5, .inl (fun _ => 0))), (u.2.1, .inl (cI, 5, .inl (fun _ => 0))), (u.2.2.1, .inl (cI, 5, .inl (fun _ => 0))), (u.2.2.2.1, .inl (cI, 7, .inl (fun _ => 0))), (u.2.2.2.2.1, .inl (cI, 7, .inl (fun _ => 0))), (u.2.2.2.2.2.1, .inl (cI, 7, .inl (fun _ => 0))), (u.2.2.2.2.2.2.1, .inl (cI, 7, .inl (fun _ => 0))), (u.2.2.2.2.2.2.2, .inl (cI, 7, .inl (fun _ => 0)))]) u)) A) cX0_init 1 none (by decide) rfl (Nat.le_of_ble_eq_true rfl) ?_
  intro p e s m args below meth c R Q A ls hBd hR hQ hA hS hK hP hD hl
  obtain ⟨hx, hb, hr, hts, hown, hlocks, hin, hml⟩ := hBd
  have hl : lv_has ls 1 [(0, .ref h0)] := hl
  have iX0 : ∀ w ∈ wsX00, w ∈ wsX0_init := fun _ h => List.mem_cons_of_mem _ (List.mem_append_right _ h)
  refine lv_aload_n hx hb dX0_init_0 rfl (lv_at hl 0 rfl) ?_
  refine W.objInit hx hb hown (hts (.methodLink RX0 3 objectInit) (List.mem_of_getElem? (i := 1) rfl)) (hts (.instanceMethod objectInit) (List.mem_of_getElem? (i := 2) rfl)) (hts (.code objectInit ⟨#[0xb1]⟩ 1 none) (List.mem_of_getElem? (i := 3) rfl)) rfl (by rw [hml]; exact hl.1) rfl dX0_init_1 (by rw [hR]; exact Nat.le_of_ble_eq_true rfl) (by rw [hR]; exact Nat.le_of_ble_eq_true rfl) ?_
  refine W.eq (g2 := F0 m 4 ls []) rfl ?_
  refine lv_aload_n hx hb dX0_init_4 rfl (lv_at hl 0 rfl) ?_
  refine lv_iconst (v := 0) hx hb dX0_init_5 (by decide) ?_
  refine va_put (D := D) (ci := 0) (v := .int 0) (ty := .int) (C := RX0) (T := TX0) (N := 10) hx hb hts iX0 tyX0 tyX0_ok nmX0 hown hK hP hD hS 0 rfl rfl 0 (by decide) (hts (.fieldLink RX0 9 "PunchedTicket$Line" "people" "I") (List.mem_of_getElem? (i := 4) rfl)) (fun _ h9 => h9) rfl (by decide +kernel) rfl rfl (Nat.le_of_ble_eq_true rfl) dX0_init_6 (fun H locs hP hD hS => ?_)
  have hP : va_P D vwCl [(h0, .inr (0, [.int 0, .int 0, .null, .null, .null, .null, .null, .null, .null, .null]))] H := hP
  have hD : va_D A [(h0, .inr (0, [.int 0, .int 0, .null, .null, .null, .null, .null, .null, .null, .null]))] := hD
  refine lv_aload_n hx hb dX0_init_9 rfl (lv_at hl 0 rfl) ?_
  refine lv_iconst (v := 0) hx hb dX0_init_10 (by decide) ?_
  refine va_put (D := D) (ci := 0) (v := .int 0) (ty := .int) (C := RX0) (T := TX0) (N := 10) hx hb hts iX0 tyX0 tyX0_ok nmX0 hown hK hP hD hS 0 rfl rfl 1 (by decide) (hts (.fieldLink RX0 15 "PunchedTicket$Line" "tickets" "I") (List.mem_of_getElem? (i := 5) rfl)) (fun _ h9 => h9) rfl (by decide +kernel) rfl rfl (Nat.le_of_ble_eq_true rfl) dX0_init_11 (fun H locs hP hD hS => ?_)
  have hP : va_P D vwCl [(h0, .inr (0, [.int 0, .int 0, .null, .null, .null, .null, .null, .null, .null, .null]))] H := hP
  have hD : va_D A [(h0, .inr (0, [.int 0, .int 0, .null, .null, .null, .null, .null, .null, .null, .null]))] := hD
  refine lv_aload_n hx hb dX0_init_14 rfl (lv_at hl 0 rfl) ?_
  refine lv_iconst (v := 5) hx hb dX0_init_15 (by decide) ?_
  refine newI hx hb (hts (.arrayClass .int) (List.mem_of_getElem? (i := 6) rfl)) hK hP hD hS hA 5 (by decide) (by decide) (by decide) (by rw [hR]; exact Nat.le_of_ble_eq_true rfl) (by rw [hR]; exact Nat.le_of_ble_eq_true rfl) dX0_init_16 (fun q_1 H hP hD hS => ?_)
  have hP : va_P D vwCl [(h0, .inr (0, [.int 0, .int 0, .null, .null, .null, .null, .null, .null, .null, .null])), (q_1, .inl (cI, 5, .inl (fun _ => 0)))] H := hP
  have hD : va_D A [(h0, .inr (0, [.int 0, .int 0, .null, .null, .null, .null, .null, .null, .null, .null])), (q_1, .inl (cI, 5, .inl (fun _ => 0)))] := hD
  refine W.widen (k := 1) (n := 5) (by omega) (by omega) ?_
  refine va_putF (D := D) (ci := 0) (v := .ref q_1) (ty := (.array .int)) (C := RX0) (T := TX0) (N := 10) hx hb hts iX0 tyX0 tyX0_ok nmX0 hown hK hP hD hS 0 rfl rfl 2 (by decide) (hts (.fieldLink RX0 18 "PunchedTicket$Line" "home" "[I") (List.mem_of_getElem? (i := 7) rfl)) (fun _ h9 => h9) rfl hin rfl (by decide +kernel) rfl rfl (Nat.le_of_ble_eq_true rfl) dX0_init_18 (fun H locs hP hD hS => ?_)
  have hP : va_P D vwCl [(h0, .inr (0, [.int 0, .int 0, .ref q_1, .null, .null, .null, .null, .null, .null, .null])), (q_1, .inl (cI, 5, .inl (fun _ => 0)))] H := hP
  have hD : va_D A [(h0, .inr (0, [.int 0, .int 0, .ref q_1, .null, .null, .null, .null, .null, .null, .null])), (q_1, .inl (cI, 5, .inl (fun _ => 0)))] := hD
  refine lv_aload_n hx hb dX0_init_21 rfl (lv_at hl 0 rfl) ?_
  refine lv_iconst (v := 5) hx hb dX0_init_22 (by decide) ?_
  refine newI hx hb (hts (.arrayClass .int) (List.mem_of_getElem? (i := 6) rfl)) hK hP hD hS hA 5 (by decide) (by decide) (by decide) (by rw [hR]; exact Nat.le_of_ble_eq_true rfl) (by rw [hR]; exact Nat.le_of_ble_eq_true rfl) dX0_init_23 (fun q_2 H hP hD hS => ?_)
  have hP : va_P D vwCl [(h0, .inr (0, [.int 0, .int 0, .ref q_1, .null, .null, .null, .null, .null, .null, .null])), (q_1, .inl (cI, 5, .inl (fun _ => 0))), (q_2, .inl (cI, 5, .inl (fun _ => 0)))] H := hP
  have hD : va_D A [(h0, .inr (0, [.int 0, .int 0, .ref q_1, .null, .null, .null, .null, .null, .null, .null])), (q_1, .inl (cI, 5, .inl (fun _ => 0))), (q_2, .inl (cI, 5, .inl (fun _ => 0)))] := hD
  refine W.widen (k := 2) (n := 10) (by omega) (by omega) ?_
  refine va_putF (D := D) (ci := 0) (v := .ref q_2) (ty := (.array .int)) (C := RX0) (T := TX0) (N := 10) hx hb hts iX0 tyX0 tyX0_ok nmX0 hown hK hP hD hS 0 rfl rfl 3 (by decide) (hts (.fieldLink RX0 22 "PunchedTicket$Line" "liked" "[I") (List.mem_of_getElem? (i := 8) rfl)) (fun _ h9 => h9) rfl hin rfl (by decide +kernel) rfl rfl (Nat.le_of_ble_eq_true rfl) dX0_init_25 (fun H locs hP hD hS => ?_)
  have hP : va_P D vwCl [(h0, .inr (0, [.int 0, .int 0, .ref q_1, .ref q_2, .null, .null, .null, .null, .null, .null])), (q_1, .inl (cI, 5, .inl (fun _ => 0))), (q_2, .inl (cI, 5, .inl (fun _ => 0)))] H := hP
  have hD : va_D A [(h0, .inr (0, [.int 0, .int 0, .ref q_1, .ref q_2, .null, .null, .null, .null, .null, .null])), (q_1, .inl (cI, 5, .inl (fun _ => 0))), (q_2, .inl (cI, 5, .inl (fun _ => 0)))] := hD
  refine lv_aload_n hx hb dX0_init_28 rfl (lv_at hl 0 rfl) ?_
  refine lv_iconst (v := 5) hx hb dX0_init_29 (by decide) ?_
  refine newI hx hb (hts (.arrayClass .int) (List.mem_of_getElem? (i := 6) rfl)) hK hP hD hS hA 5 (by decide) (by decide) (by decide) (by rw [hR]; exact Nat.le_of_ble_eq_true rfl) (by rw [hR]; exact Nat.le_of_ble_eq_true rfl) dX0_init_30 (fun q_3 H hP hD hS => ?_)
  have hP : va_P D vwCl [(h0, .inr (0, [.int 0, .int 0, .ref q_1, .ref q_2, .null, .null, .null, .null, .null, .null])), (q_1, .inl (cI, 5, .inl (fun _ => 0))), (q_2, .inl (cI, 5, .inl (fun _ => 0))), (q_3, .inl (cI, 5, .inl (fun _ => 0)))] H := hP
  have hD : va_D A [(h0, .inr (0, [.int 0, .int 0, .ref q_1, .ref q_2, .null, .null, .null, .null, .null, .null])), (q_1, .inl (cI, 5, .inl (fun _ => 0))), (q_2, .inl (cI, 5, .inl (fun _ => 0))), (q_3, .inl (cI, 5, .inl (fun _ => 0)))] := hD
  refine W.widen (k := 3) (n := 15) (by omega) (by omega) ?_
  refine va_putF (D := D) (ci := 0) (v := .ref q_3) (ty := (.array .int)) (C := RX0) (T := TX0) (N := 10) hx hb hts iX0 tyX0 tyX0_ok nmX0 hown hK hP hD hS 0 rfl rfl 4 (by decide) (hts (.fieldLink RX0 25 "PunchedTicket$Line" "kind" "[I") (List.mem_of_getElem? (i := 9) rfl)) (fun _ h9 => h9) rfl hin rfl (by decide +kernel) rfl rfl (Nat.le_of_ble_eq_true rfl) dX0_init_32 (fun H locs hP hD hS => ?_)
  have hP : va_P D vwCl [(h0, .inr (0, [.int 0, .int 0, .ref q_1, .ref q_2, .ref q_3, .null, .null, .null, .null, .null])), (q_1, .inl (cI, 5, .inl (fun _ => 0))), (q_2, .inl (cI, 5, .inl (fun _ => 0))), (q_3, .inl (cI, 5, .inl (fun _ => 0)))] H := hP
  have hD : va_D A [(h0, .inr (0, [.int 0, .int 0, .ref q_1, .ref q_2, .ref q_3, .null, .null, .null, .null, .null])), (q_1, .inl (cI, 5, .inl (fun _ => 0))), (q_2, .inl (cI, 5, .inl (fun _ => 0))), (q_3, .inl (cI, 5, .inl (fun _ => 0)))] := hD
  refine lv_aload_n hx hb dX0_init_35 rfl (lv_at hl 0 rfl) ?_
  refine lv_bipush (v := 7) hx hb dX0_init_36 (by decide) ?_
  refine newI hx hb (hts (.arrayClass .int) (List.mem_of_getElem? (i := 6) rfl)) hK hP hD hS hA 7 (by decide) (by decide) (by decide) (by rw [hR]; exact Nat.le_of_ble_eq_true rfl) (by rw [hR]; exact Nat.le_of_ble_eq_true rfl) dX0_init_38 (fun q_4 H hP hD hS => ?_)
  have hP : va_P D vwCl [(h0, .inr (0, [.int 0, .int 0, .ref q_1, .ref q_2, .ref q_3, .null, .null, .null, .null, .null])), (q_1, .inl (cI, 5, .inl (fun _ => 0))), (q_2, .inl (cI, 5, .inl (fun _ => 0))), (q_3, .inl (cI, 5, .inl (fun _ => 0))), (q_4, .inl (cI, 7, .inl (fun _ => 0)))] H := hP
  have hD : va_D A [(h0, .inr (0, [.int 0, .int 0, .ref q_1, .ref q_2, .ref q_3, .null, .null, .null, .null, .null])), (q_1, .inl (cI, 5, .inl (fun _ => 0))), (q_2, .inl (cI, 5, .inl (fun _ => 0))), (q_3, .inl (cI, 5, .inl (fun _ => 0))), (q_4, .inl (cI, 7, .inl (fun _ => 0)))] := hD
  refine W.widen (k := 4) (n := 22) (by omega) (by omega) ?_
  refine va_putF (D := D) (ci := 0) (v := .ref q_4) (ty := (.array .int)) (C := RX0) (T := TX0) (N := 10) hx hb hts iX0 tyX0 tyX0_ok nmX0 hown hK hP hD hS 0 rfl rfl 5 (by decide) (hts (.fieldLink RX0 28 "PunchedTicket$Line" "forDay" "[I") (List.mem_of_getElem? (i := 10) rfl)) (fun _ h9 => h9) rfl hin rfl (by decide +kernel) rfl rfl (Nat.le_of_ble_eq_true rfl) dX0_init_40 (fun H locs hP hD hS => ?_)
  have hP : va_P D vwCl [(h0, .inr (0, [.int 0, .int 0, .ref q_1, .ref q_2, .ref q_3, .ref q_4, .null, .null, .null, .null])), (q_1, .inl (cI, 5, .inl (fun _ => 0))), (q_2, .inl (cI, 5, .inl (fun _ => 0))), (q_3, .inl (cI, 5, .inl (fun _ => 0))), (q_4, .inl (cI, 7, .inl (fun _ => 0)))] H := hP
  have hD : va_D A [(h0, .inr (0, [.int 0, .int 0, .ref q_1, .ref q_2, .ref q_3, .ref q_4, .null, .null, .null, .null])), (q_1, .inl (cI, 5, .inl (fun _ => 0))), (q_2, .inl (cI, 5, .inl (fun _ => 0))), (q_3, .inl (cI, 5, .inl (fun _ => 0))), (q_4, .inl (cI, 7, .inl (fun _ => 0)))] := hD
  refine lv_aload_n hx hb dX0_init_43 rfl (lv_at hl 0 rfl) ?_
  refine lv_bipush (v := 7) hx hb dX0_init_44 (by decide) ?_
  refine newI hx hb (hts (.arrayClass .int) (List.mem_of_getElem? (i := 6) rfl)) hK hP hD hS hA 7 (by decide) (by decide) (by decide) (by rw [hR]; exact Nat.le_of_ble_eq_true rfl) (by rw [hR]; exact Nat.le_of_ble_eq_true rfl) dX0_init_46 (fun q_5 H hP hD hS => ?_)
  have hP : va_P D vwCl [(h0, .inr (0, [.int 0, .int 0, .ref q_1, .ref q_2, .ref q_3, .ref q_4, .null, .null, .null, .null])), (q_1, .inl (cI, 5, .inl (fun _ => 0))), (q_2, .inl (cI, 5, .inl (fun _ => 0))), (q_3, .inl (cI, 5, .inl (fun _ => 0))), (q_4, .inl (cI, 7, .inl (fun _ => 0))), (q_5, .inl (cI, 7, .inl (fun _ => 0)))] H := hP
  have hD : va_D A [(h0, .inr (0, [.int 0, .int 0, .ref q_1, .ref q_2, .ref q_3, .ref q_4, .null, .null, .null, .null])), (q_1, .inl (cI, 5, .inl (fun _ => 0))), (q_2, .inl (cI, 5, .inl (fun _ => 0))), (q_3, .inl (cI, 5, .inl (fun _ => 0))), (q_4, .inl (cI, 7, .inl (fun _ => 0))), (q_5, .inl (cI, 7, .inl (fun _ => 0)))] := hD
  refine W.widen (k := 5) (n := 29) (by omega) (by omega) ?_
  refine va_putF (D := D) (ci := 0) (v := .ref q_5) (ty := (.array .int)) (C := RX0) (T := TX0) (N := 10) hx hb hts iX0 tyX0 tyX0_ok nmX0 hown hK hP hD hS 0 rfl rfl 6 (by decide) (hts (.fieldLink RX0 31 "PunchedTicket$Line" "from" "[I") (List.mem_of_getElem? (i := 11) rfl)) (fun _ h9 => h9) rfl hin rfl (by decide +kernel) rfl rfl (Nat.le_of_ble_eq_true rfl) dX0_init_48 (fun H locs hP hD hS => ?_)
  have hP : va_P D vwCl [(h0, .inr (0, [.int 0, .int 0, .ref q_1, .ref q_2, .ref q_3, .ref q_4, .ref q_5, .null, .null, .null])), (q_1, .inl (cI, 5, .inl (fun _ => 0))), (q_2, .inl (cI, 5, .inl (fun _ => 0))), (q_3, .inl (cI, 5, .inl (fun _ => 0))), (q_4, .inl (cI, 7, .inl (fun _ => 0))), (q_5, .inl (cI, 7, .inl (fun _ => 0)))] H := hP
  have hD : va_D A [(h0, .inr (0, [.int 0, .int 0, .ref q_1, .ref q_2, .ref q_3, .ref q_4, .ref q_5, .null, .null, .null])), (q_1, .inl (cI, 5, .inl (fun _ => 0))), (q_2, .inl (cI, 5, .inl (fun _ => 0))), (q_3, .inl (cI, 5, .inl (fun _ => 0))), (q_4, .inl (cI, 7, .inl (fun _ => 0))), (q_5, .inl (cI, 7, .inl (fun _ => 0)))] := hD
  refine lv_aload_n hx hb dX0_init_51 rfl (lv_at hl 0 rfl) ?_
  refine lv_bipush (v := 7) hx hb dX0_init_52 (by decide) ?_
  refine newI hx hb (hts (.arrayClass .int) (List.mem_of_getElem? (i := 6) rfl)) hK hP hD hS hA 7 (by decide) (by decide) (by decide) (by rw [hR]; exact Nat.le_of_ble_eq_true rfl) (by rw [hR]; exact Nat.le_of_ble_eq_true rfl) dX0_init_54 (fun q_6 H hP hD hS => ?_)
  have hP : va_P D vwCl [(h0, .inr (0, [.int 0, .int 0, .ref q_1, .ref q_2, .ref q_3, .ref q_4, .ref q_5, .null, .null, .null])), (q_1, .inl (cI, 5, .inl (fun _ => 0))), (q_2, .inl (cI, 5, .inl (fun _ => 0))), (q_3, .inl (cI, 5, .inl (fun _ => 0))), (q_4, .inl (cI, 7, .inl (fun _ => 0))), (q_5, .inl (cI, 7, .inl (fun _ => 0))), (q_6, .inl (cI, 7, .inl (fun _ => 0)))] H := hP
  have hD : va_D A [(h0, .inr (0, [.int 0, .int 0, .ref q_1, .ref q_2, .ref q_3, .ref q_4, .ref q_5, .null, .null, .null])), (q_1, .inl (cI, 5, .inl (fun _ => 0))), (q_2, .inl (cI, 5, .inl (fun _ => 0))), (q_3, .inl (cI, 5, .inl (fun _ => 0))), (q_4, .inl (cI, 7, .inl (fun _ => 0))), (q_5, .inl (cI, 7, .inl (fun _ => 0))), (q_6, .inl (cI, 7, .inl (fun _ => 0)))] := hD
  refine W.widen (k := 6) (n := 36) (by omega) (by omega) ?_
  refine va_putF (D := D) (ci := 0) (v := .ref q_6) (ty := (.array .int)) (C := RX0) (T := TX0) (N := 10) hx hb hts iX0 tyX0 tyX0_ok nmX0 hown hK hP hD hS 0 rfl rfl 7 (by decide) (hts (.fieldLink RX0 34 "PunchedTicket$Line" "to" "[I") (List.mem_of_getElem? (i := 12) rfl)) (fun _ h9 => h9) rfl hin rfl (by decide +kernel) rfl rfl (Nat.le_of_ble_eq_true rfl) dX0_init_56 (fun H locs hP hD hS => ?_)
  have hP : va_P D vwCl [(h0, .inr (0, [.int 0, .int 0, .ref q_1, .ref q_2, .ref q_3, .ref q_4, .ref q_5, .ref q_6, .null, .null])), (q_1, .inl (cI, 5, .inl (fun _ => 0))), (q_2, .inl (cI, 5, .inl (fun _ => 0))), (q_3, .inl (cI, 5, .inl (fun _ => 0))), (q_4, .inl (cI, 7, .inl (fun _ => 0))), (q_5, .inl (cI, 7, .inl (fun _ => 0))), (q_6, .inl (cI, 7, .inl (fun _ => 0)))] H := hP
  have hD : va_D A [(h0, .inr (0, [.int 0, .int 0, .ref q_1, .ref q_2, .ref q_3, .ref q_4, .ref q_5, .ref q_6, .null, .null])), (q_1, .inl (cI, 5, .inl (fun _ => 0))), (q_2, .inl (cI, 5, .inl (fun _ => 0))), (q_3, .inl (cI, 5, .inl (fun _ => 0))), (q_4, .inl (cI, 7, .inl (fun _ => 0))), (q_5, .inl (cI, 7, .inl (fun _ => 0))), (q_6, .inl (cI, 7, .inl (fun _ => 0)))] := hD
  refine lv_aload_n hx hb dX0_init_59 rfl (lv_at hl 0 rfl) ?_
  refine lv_bipush (v := 7) hx hb dX0_init_60 (by decide) ?_
  refine newI hx hb (hts (.arrayClass .int) (List.mem_of_getElem? (i := 6) rfl)) hK hP hD hS hA 7 (by decide) (by decide) (by decide) (by rw [hR]; exact Nat.le_of_ble_eq_true rfl) (by rw [hR]; exact Nat.le_of_ble_eq_true rfl) dX0_init_62 (fun q_7 H hP hD hS => ?_)
  have hP : va_P D vwCl [(h0, .inr (0, [.int 0, .int 0, .ref q_1, .ref q_2, .ref q_3, .ref q_4, .ref q_5, .ref q_6, .null, .null])), (q_1, .inl (cI, 5, .inl (fun _ => 0))), (q_2, .inl (cI, 5, .inl (fun _ => 0))), (q_3, .inl (cI, 5, .inl (fun _ => 0))), (q_4, .inl (cI, 7, .inl (fun _ => 0))), (q_5, .inl (cI, 7, .inl (fun _ => 0))), (q_6, .inl (cI, 7, .inl (fun _ => 0))), (q_7, .inl (cI, 7, .inl (fun _ => 0)))] H := hP
  have hD : va_D A [(h0, .inr (0, [.int 0, .int 0, .ref q_1, .ref q_2, .ref q_3, .ref q_4, .ref q_5, .ref q_6, .null, .null])), (q_1, .inl (cI, 5, .inl (fun _ => 0))), (q_2, .inl (cI, 5, .inl (fun _ => 0))), (q_3, .inl (cI, 5, .inl (fun _ => 0))), (q_4, .inl (cI, 7, .inl (fun _ => 0))), (q_5, .inl (cI, 7, .inl (fun _ => 0))), (q_6, .inl (cI, 7, .inl (fun _ => 0))), (q_7, .inl (cI, 7, .inl (fun _ => 0)))] := hD
  refine W.widen (k := 7) (n := 43) (by omega) (by omega) ?_
  refine va_putF (D := D) (ci := 0) (v := .ref q_7) (ty := (.array .int)) (C := RX0) (T := TX0) (N := 10) hx hb hts iX0 tyX0 tyX0_ok nmX0 hown hK hP hD hS 0 rfl rfl 8 (by decide) (hts (.fieldLink RX0 37 "PunchedTicket$Line" "seat" "[I") (List.mem_of_getElem? (i := 13) rfl)) (fun _ h9 => h9) rfl hin rfl (by decide +kernel) rfl rfl (Nat.le_of_ble_eq_true rfl) dX0_init_64 (fun H locs hP hD hS => ?_)
  have hP : va_P D vwCl [(h0, .inr (0, [.int 0, .int 0, .ref q_1, .ref q_2, .ref q_3, .ref q_4, .ref q_5, .ref q_6, .ref q_7, .null])), (q_1, .inl (cI, 5, .inl (fun _ => 0))), (q_2, .inl (cI, 5, .inl (fun _ => 0))), (q_3, .inl (cI, 5, .inl (fun _ => 0))), (q_4, .inl (cI, 7, .inl (fun _ => 0))), (q_5, .inl (cI, 7, .inl (fun _ => 0))), (q_6, .inl (cI, 7, .inl (fun _ => 0))), (q_7, .inl (cI, 7, .inl (fun _ => 0)))] H := hP
  have hD : va_D A [(h0, .inr (0, [.int 0, .int 0, .ref q_1, .ref q_2, .ref q_3, .ref q_4, .ref q_5, .ref q_6, .ref q_7, .null])), (q_1, .inl (cI, 5, .inl (fun _ => 0))), (q_2, .inl (cI, 5, .inl (fun _ => 0))), (q_3, .inl (cI, 5, .inl (fun _ => 0))), (q_4, .inl (cI, 7, .inl (fun _ => 0))), (q_5, .inl (cI, 7, .inl (fun _ => 0))), (q_6, .inl (cI, 7, .inl (fun _ => 0))), (q_7, .inl (cI, 7, .inl (fun _ => 0)))] := hD
  refine lv_aload_n hx hb dX0_init_67 rfl (lv_at hl 0 rfl) ?_
  refine lv_bipush (v := 7) hx hb dX0_init_68 (by decide) ?_
  refine newI hx hb (hts (.arrayClass .int) (List.mem_of_getElem? (i := 6) rfl)) hK hP hD hS hA 7 (by decide) (by decide) (by decide) (by rw [hR]; exact Nat.le_of_ble_eq_true rfl) (by rw [hR]; exact Nat.le_of_ble_eq_true rfl) dX0_init_70 (fun q_8 H hP hD hS => ?_)
  have hP : va_P D vwCl [(h0, .inr (0, [.int 0, .int 0, .ref q_1, .ref q_2, .ref q_3, .ref q_4, .ref q_5, .ref q_6, .ref q_7, .null])), (q_1, .inl (cI, 5, .inl (fun _ => 0))), (q_2, .inl (cI, 5, .inl (fun _ => 0))), (q_3, .inl (cI, 5, .inl (fun _ => 0))), (q_4, .inl (cI, 7, .inl (fun _ => 0))), (q_5, .inl (cI, 7, .inl (fun _ => 0))), (q_6, .inl (cI, 7, .inl (fun _ => 0))), (q_7, .inl (cI, 7, .inl (fun _ => 0))), (q_8, .inl (cI, 7, .inl (fun _ => 0)))] H := hP
  have hD : va_D A [(h0, .inr (0, [.int 0, .int 0, .ref q_1, .ref q_2, .ref q_3, .ref q_4, .ref q_5, .ref q_6, .ref q_7, .null])), (q_1, .inl (cI, 5, .inl (fun _ => 0))), (q_2, .inl (cI, 5, .inl (fun _ => 0))), (q_3, .inl (cI, 5, .inl (fun _ => 0))), (q_4, .inl (cI, 7, .inl (fun _ => 0))), (q_5, .inl (cI, 7, .inl (fun _ => 0))), (q_6, .inl (cI, 7, .inl (fun _ => 0))), (q_7, .inl (cI, 7, .inl (fun _ => 0))), (q_8, .inl (cI, 7, .inl (fun _ => 0)))] := hD
  refine W.widen (k := 8) (n := 50) (by omega) (by omega) ?_
  refine va_putF (D := D) (ci := 0) (v := .ref q_8) (ty := (.array .int)) (C := RX0) (T := TX0) (N := 10) hx hb hts iX0 tyX0 tyX0_ok nmX0 hown hK hP hD hS 0 rfl rfl 9 (by decide) (hts (.fieldLink RX0 40 "PunchedTicket$Line" "holder" "[I") (List.mem_of_getElem? (i := 14) rfl)) (fun _ h9 => h9) rfl hin rfl (by decide +kernel) rfl rfl (Nat.le_of_ble_eq_true rfl) dX0_init_72 (fun H locs hP hD hS => ?_)
  have hP : va_P D vwCl [(h0, .inr (0, [.int 0, .int 0, .ref q_1, .ref q_2, .ref q_3, .ref q_4, .ref q_5, .ref q_6, .ref q_7, .ref q_8])), (q_1, .inl (cI, 5, .inl (fun _ => 0))), (q_2, .inl (cI, 5, .inl (fun _ => 0))), (q_3, .inl (cI, 5, .inl (fun _ => 0))), (q_4, .inl (cI, 7, .inl (fun _ => 0))), (q_5, .inl (cI, 7, .inl (fun _ => 0))), (q_6, .inl (cI, 7, .inl (fun _ => 0))), (q_7, .inl (cI, 7, .inl (fun _ => 0))), (q_8, .inl (cI, 7, .inl (fun _ => 0)))] H := hP
  have hD : va_D A [(h0, .inr (0, [.int 0, .int 0, .ref q_1, .ref q_2, .ref q_3, .ref q_4, .ref q_5, .ref q_6, .ref q_7, .ref q_8])), (q_1, .inl (cI, 5, .inl (fun _ => 0))), (q_2, .inl (cI, 5, .inl (fun _ => 0))), (q_3, .inl (cI, 5, .inl (fun _ => 0))), (q_4, .inl (cI, 7, .inl (fun _ => 0))), (q_5, .inl (cI, 7, .inl (fun _ => 0))), (q_6, .inl (cI, 7, .inl (fun _ => 0))), (q_7, .inl (cI, 7, .inl (fun _ => 0))), (q_8, .inl (cI, 7, .inl (fun _ => 0)))] := hD
  exact ret_v (post := (fun (u : Nat × Nat × Nat × Nat × Nat × Nat × Nat × Nat) => True)) (W1 := (fun u => [(h0, .inr (0, [.int 0, .int 0, .ref u.1, .ref u.2.1, .ref u.2.2.1, .ref u.2.2.2.1, .ref u.2.2.2.2.1, .ref u.2.2.2.2.2.1, .ref u.2.2.2.2.2.2.1, .ref u.2.2.2.2.2.2.2])), (u.1, .inl (cI, 5, .inl (fun _ => 0))), (u.2.1, .inl (cI, 5, .inl (fun _ => 0))), (u.2.2.1, .inl (cI, 5, .inl (fun _ => 0))), (u.2.2.2.1, .inl (cI, 7, .inl (fun _ => 0))), (u.2.2.2.2.1, .inl (cI, 7, .inl (fun _ => 0))), (u.2.2.2.2.2.1, .inl (cI, 7, .inl (fun _ => 0))), (u.2.2.2.2.2.2.1, .inl (cI, 7, .inl (fun _ => 0))), (u.2.2.2.2.2.2.2, .inl (cI, 7, .inl (fun _ => 0)))])) (q_1, q_2, q_3, q_4, q_5, q_6, q_7, q_8) hx hb hr hlocks hQ hK hP hD hS ⟨by decide, by decide⟩ dX0_init_75 trivial

set_option maxHeartbeats 600000 in
set_option maxRecDepth 100000 in
theorem c_X1_init (l : Launch) (D : va_G) (cI cZ cM : ClassId) (h0 : Nat) (ln : Nat) (sz : Nat)  : Cv l yX1_init wsX1_init ({ frames := 1, cells := 3, slots := 19, locals := 12 } : Room) D cI cZ cM [.ref h0, .ref ln] [(h0, .inr (1, [.null, .int 0, .int 0, .int 0, .int 0, .null, .null, .null]))] sz (fun (u : Nat × Nat × Nat) => True) (fun u => [(h0, .inr (1, [.ref ln, .int 0, .int 0, .int 0, .int 0, .ref u.1, .ref u.2.1, .ref u.2.2])), (u.1, .inl (cI, 5, .inl (fun _ => 0))), (u.2.1, .inl (cI, 7, .inl (fun _ => 0))), (u.2.2, .inl (cI, 7, .inl (fun _ => 0)))]) 3 19 := by
  refine begins (l := l) (y := yX1_init) (ws := wsX1_init) (av := [.ref h0, .ref ln]) (Qc := fun A => va_Qv (fun (u : Nat × Nat × Nat) => True) (fun u => Wd D cI cZ cM A ((fun u => [(h0, .inr (1, [.ref ln, .int 0, .int 0, .int 0, .int 0, .ref u.1, .ref u.2.1, .ref u.2.2])), (u.1, .inl (cI, 5, .inl (fun _ => 0))), (u.2.1, .inl (cI, 7, .inl (fun _ => 0))), (u.2.2, .inl (cI, 7, .inl (fun _ => 0)))]) u)) A) cX1_init 2 none (by decide) rfl (Nat.le_of_ble_eq_true rfl) ?_
  intro p e s m args below meth c R Q A ls hBd hR hQ hA hS hK hP hD hl
  obtain ⟨hx, hb, hr, hts, hown, hlocks, hin, hml⟩ := hBd
  have hl : lv_has ls 2 [(0, .ref h0), (1, .ref ln)] := hl
  have iX1 : ∀ w ∈ wsX10, w ∈ wsX1_init := fun _ h => List.mem_cons_of_mem _ (List.mem_append_right _ h)
  refine lv_aload_n hx hb dX1_init_0 rfl (lv_at hl 0 rfl) ?_
  refine W.objInit hx hb hown (hts (.methodLink RX1 3 objectInit) (List.mem_of_getElem? (i := 1) rfl)) (hts (.instanceMethod objectInit) (List.mem_of_getElem? (i := 2) rfl)) (hts (.code objectInit ⟨#[0xb1]⟩ 1 none) (List.mem_of_getElem? (i := 3) rfl)) rfl (by rw [hml]; exact hl.1) rfl dX1_init_1 (by rw [hR]; exact Nat.le_of_ble_eq_true rfl) (by rw [hR]; exact Nat.le_of_ble_eq_true rfl) ?_
  refine W.eq (g2 := F0 m 4 ls []) rfl ?_
  refine lv_aload_n hx hb dX1_init_4 rfl (lv_at hl 0 rfl) ?_
  refine lv_iconst (v := 0) hx hb dX1_init_5 (by decide) ?_
  refine va_put (D := D) (ci := 1) (v := .int 0) (ty := .int) (C := RX1) (T := TX1) (N := 8) hx hb hts iX1 tyX1 tyX1_ok nmX1 hown hK hP hD hS 0 rfl rfl 1 (by decide) (hts (.fieldLink RX1 9 "PunchedTicket$Moment" "day" "I") (List.mem_of_getElem? (i := 4) rfl)) (fun _ h9 => h9) rfl (by decide +kernel) rfl rfl (Nat.le_of_ble_eq_true rfl) dX1_init_6 (fun H locs hP hD hS => ?_)
  have hP : va_P D vwCl [(h0, .inr (1, [.null, .int 0, .int 0, .int 0, .int 0, .null, .null, .null]))] H := hP
  have hD : va_D A [(h0, .inr (1, [.null, .int 0, .int 0, .int 0, .int 0, .null, .null, .null]))] := hD
  refine lv_aload_n hx hb dX1_init_9 rfl (lv_at hl 0 rfl) ?_
  refine lv_iconst (v := 0) hx hb dX1_init_10 (by decide) ?_
  refine va_put (D := D) (ci := 1) (v := .int 0) (ty := .int) (C := RX1) (T := TX1) (N := 8) hx hb hts iX1 tyX1 tyX1_ok nmX1 hown hK hP hD hS 0 rfl rfl 2 (by decide) (hts (.fieldLink RX1 15 "PunchedTicket$Moment" "tickets" "I") (List.mem_of_getElem? (i := 5) rfl)) (fun _ h9 => h9) rfl (by decide +kernel) rfl rfl (Nat.le_of_ble_eq_true rfl) dX1_init_11 (fun H locs hP hD hS => ?_)
  have hP : va_P D vwCl [(h0, .inr (1, [.null, .int 0, .int 0, .int 0, .int 0, .null, .null, .null]))] H := hP
  have hD : va_D A [(h0, .inr (1, [.null, .int 0, .int 0, .int 0, .int 0, .null, .null, .null]))] := hD
  refine lv_aload_n hx hb dX1_init_14 rfl (lv_at hl 0 rfl) ?_
  refine lv_iconst (v := 0) hx hb dX1_init_15 (by decide) ?_
  refine va_put (D := D) (ci := 1) (v := .int 0) (ty := .int) (C := RX1) (T := TX1) (N := 8) hx hb hts iX1 tyX1 tyX1_ok nmX1 hown hK hP hD hS 0 rfl rfl 3 (by decide) (hts (.fieldLink RX1 18 "PunchedTicket$Moment" "returns" "I") (List.mem_of_getElem? (i := 6) rfl)) (fun _ h9 => h9) rfl (by decide +kernel) rfl rfl (Nat.le_of_ble_eq_true rfl) dX1_init_16 (fun H locs hP hD hS => ?_)
  have hP : va_P D vwCl [(h0, .inr (1, [.null, .int 0, .int 0, .int 0, .int 0, .null, .null, .null]))] H := hP
  have hD : va_D A [(h0, .inr (1, [.null, .int 0, .int 0, .int 0, .int 0, .null, .null, .null]))] := hD
  refine lv_aload_n hx hb dX1_init_19 rfl (lv_at hl 0 rfl) ?_
  refine lv_iconst (v := 0) hx hb dX1_init_20 (by decide) ?_
  refine va_put (D := D) (ci := 1) (v := .int 0) (ty := .int) (C := RX1) (T := TX1) (N := 8) hx hb hts iX1 tyX1 tyX1_ok nmX1 hown hK hP hD hS 0 rfl rfl 4 (by decide) (hts (.fieldLink RX1 21 "PunchedTicket$Moment" "gone" "I") (List.mem_of_getElem? (i := 7) rfl)) (fun _ h9 => h9) rfl (by decide +kernel) rfl rfl (Nat.le_of_ble_eq_true rfl) dX1_init_21 (fun H locs hP hD hS => ?_)
  have hP : va_P D vwCl [(h0, .inr (1, [.null, .int 0, .int 0, .int 0, .int 0, .null, .null, .null]))] H := hP
  have hD : va_D A [(h0, .inr (1, [.null, .int 0, .int 0, .int 0, .int 0, .null, .null, .null]))] := hD
  refine lv_aload_n hx hb dX1_init_24 rfl (lv_at hl 0 rfl) ?_
  refine lv_iconst (v := 5) hx hb dX1_init_25 (by decide) ?_
  refine newI hx hb (hts (.arrayClass .int) (List.mem_of_getElem? (i := 8) rfl)) hK hP hD hS hA 5 (by decide) (by decide) (by decide) (by rw [hR]; exact Nat.le_of_ble_eq_true rfl) (by rw [hR]; exact Nat.le_of_ble_eq_true rfl) dX1_init_26 (fun q_1 H hP hD hS => ?_)
  have hP : va_P D vwCl [(h0, .inr (1, [.null, .int 0, .int 0, .int 0, .int 0, .null, .null, .null])), (q_1, .inl (cI, 5, .inl (fun _ => 0)))] H := hP
  have hD : va_D A [(h0, .inr (1, [.null, .int 0, .int 0, .int 0, .int 0, .null, .null, .null])), (q_1, .inl (cI, 5, .inl (fun _ => 0)))] := hD
  refine W.widen (k := 1) (n := 5) (by omega) (by omega) ?_
  refine va_putF (D := D) (ci := 1) (v := .ref q_1) (ty := (.array .int)) (C := RX1) (T := TX1) (N := 8) hx hb hts iX1 tyX1 tyX1_ok nmX1 hown hK hP hD hS 0 rfl rfl 5 (by decide) (hts (.fieldLink RX1 24 "PunchedTicket$Moment" "at" "[I") (List.mem_of_getElem? (i := 9) rfl)) (fun _ h9 => h9) rfl hin rfl (by decide +kernel) rfl rfl (Nat.le_of_ble_eq_true rfl) dX1_init_28 (fun H locs hP hD hS => ?_)
  have hP : va_P D vwCl [(h0, .inr (1, [.null, .int 0, .int 0, .int 0, .int 0, .ref q_1, .null, .null])), (q_1, .inl (cI, 5, .inl (fun _ => 0)))] H := hP
  have hD : va_D A [(h0, .inr (1, [.null, .int 0, .int 0, .int 0, .int 0, .ref q_1, .null, .null])), (q_1, .inl (cI, 5, .inl (fun _ => 0)))] := hD
  refine lv_aload_n hx hb dX1_init_31 rfl (lv_at hl 0 rfl) ?_
  refine lv_bipush (v := 7) hx hb dX1_init_32 (by decide) ?_
  refine newI hx hb (hts (.arrayClass .int) (List.mem_of_getElem? (i := 8) rfl)) hK hP hD hS hA 7 (by decide) (by decide) (by decide) (by rw [hR]; exact Nat.le_of_ble_eq_true rfl) (by rw [hR]; exact Nat.le_of_ble_eq_true rfl) dX1_init_34 (fun q_2 H hP hD hS => ?_)
  have hP : va_P D vwCl [(h0, .inr (1, [.null, .int 0, .int 0, .int 0, .int 0, .ref q_1, .null, .null])), (q_1, .inl (cI, 5, .inl (fun _ => 0))), (q_2, .inl (cI, 7, .inl (fun _ => 0)))] H := hP
  have hD : va_D A [(h0, .inr (1, [.null, .int 0, .int 0, .int 0, .int 0, .ref q_1, .null, .null])), (q_1, .inl (cI, 5, .inl (fun _ => 0))), (q_2, .inl (cI, 7, .inl (fun _ => 0)))] := hD
  refine W.widen (k := 2) (n := 12) (by omega) (by omega) ?_
  refine va_putF (D := D) (ci := 1) (v := .ref q_2) (ty := (.array .int)) (C := RX1) (T := TX1) (N := 8) hx hb hts iX1 tyX1 tyX1_ok nmX1 hown hK hP hD hS 0 rfl rfl 6 (by decide) (hts (.fieldLink RX1 28 "PunchedTicket$Moment" "forDay" "[I") (List.mem_of_getElem? (i := 10) rfl)) (fun _ h9 => h9) rfl hin rfl (by decide +kernel) rfl rfl (Nat.le_of_ble_eq_true rfl) dX1_init_36 (fun H locs hP hD hS => ?_)
  have hP : va_P D vwCl [(h0, .inr (1, [.null, .int 0, .int 0, .int 0, .int 0, .ref q_1, .ref q_2, .null])), (q_1, .inl (cI, 5, .inl (fun _ => 0))), (q_2, .inl (cI, 7, .inl (fun _ => 0)))] H := hP
  have hD : va_D A [(h0, .inr (1, [.null, .int 0, .int 0, .int 0, .int 0, .ref q_1, .ref q_2, .null])), (q_1, .inl (cI, 5, .inl (fun _ => 0))), (q_2, .inl (cI, 7, .inl (fun _ => 0)))] := hD
  refine lv_aload_n hx hb dX1_init_39 rfl (lv_at hl 0 rfl) ?_
  refine lv_bipush (v := 7) hx hb dX1_init_40 (by decide) ?_
  refine newI hx hb (hts (.arrayClass .int) (List.mem_of_getElem? (i := 8) rfl)) hK hP hD hS hA 7 (by decide) (by decide) (by decide) (by rw [hR]; exact Nat.le_of_ble_eq_true rfl) (by rw [hR]; exact Nat.le_of_ble_eq_true rfl) dX1_init_42 (fun q_3 H hP hD hS => ?_)
  have hP : va_P D vwCl [(h0, .inr (1, [.null, .int 0, .int 0, .int 0, .int 0, .ref q_1, .ref q_2, .null])), (q_1, .inl (cI, 5, .inl (fun _ => 0))), (q_2, .inl (cI, 7, .inl (fun _ => 0))), (q_3, .inl (cI, 7, .inl (fun _ => 0)))] H := hP
  have hD : va_D A [(h0, .inr (1, [.null, .int 0, .int 0, .int 0, .int 0, .ref q_1, .ref q_2, .null])), (q_1, .inl (cI, 5, .inl (fun _ => 0))), (q_2, .inl (cI, 7, .inl (fun _ => 0))), (q_3, .inl (cI, 7, .inl (fun _ => 0)))] := hD
  refine W.widen (k := 3) (n := 19) (by omega) (by omega) ?_
  refine va_putF (D := D) (ci := 1) (v := .ref q_3) (ty := (.array .int)) (C := RX1) (T := TX1) (N := 8) hx hb hts iX1 tyX1 tyX1_ok nmX1 hown hK hP hD hS 0 rfl rfl 7 (by decide) (hts (.fieldLink RX1 31 "PunchedTicket$Moment" "holder" "[I") (List.mem_of_getElem? (i := 11) rfl)) (fun _ h9 => h9) rfl hin rfl (by decide +kernel) rfl rfl (Nat.le_of_ble_eq_true rfl) dX1_init_44 (fun H locs hP hD hS => ?_)
  have hP : va_P D vwCl [(h0, .inr (1, [.null, .int 0, .int 0, .int 0, .int 0, .ref q_1, .ref q_2, .ref q_3])), (q_1, .inl (cI, 5, .inl (fun _ => 0))), (q_2, .inl (cI, 7, .inl (fun _ => 0))), (q_3, .inl (cI, 7, .inl (fun _ => 0)))] H := hP
  have hD : va_D A [(h0, .inr (1, [.null, .int 0, .int 0, .int 0, .int 0, .ref q_1, .ref q_2, .ref q_3])), (q_1, .inl (cI, 5, .inl (fun _ => 0))), (q_2, .inl (cI, 7, .inl (fun _ => 0))), (q_3, .inl (cI, 7, .inl (fun _ => 0)))] := hD
  refine lv_aload_n hx hb dX1_init_47 rfl (lv_at hl 0 rfl) ?_
  refine lv_aload_n hx hb dX1_init_48 rfl (lv_at hl 1 rfl) ?_
  refine va_putF (D := D) (ci := 1) (v := .ref ln) (ty := (.object "PunchedTicket$Line")) (C := RX1) (T := TX1) (N := 8) hx hb hts iX1 tyX1 tyX1_ok nmX1 hown hK hP hD hS 0 rfl rfl 0 (by decide) (hts (.fieldLink RX1 34 "PunchedTicket$Moment" "line" "LPunchedTicket$Line;") (List.mem_of_getElem? (i := 12) rfl)) (fun _ h9 => h9) rfl hin rfl (by decide +kernel) rfl rfl (Nat.le_of_ble_eq_true rfl) dX1_init_49 (fun H locs hP hD hS => ?_)
  have hP : va_P D vwCl [(h0, .inr (1, [.ref ln, .int 0, .int 0, .int 0, .int 0, .ref q_1, .ref q_2, .ref q_3])), (q_1, .inl (cI, 5, .inl (fun _ => 0))), (q_2, .inl (cI, 7, .inl (fun _ => 0))), (q_3, .inl (cI, 7, .inl (fun _ => 0)))] H := hP
  have hD : va_D A [(h0, .inr (1, [.ref ln, .int 0, .int 0, .int 0, .int 0, .ref q_1, .ref q_2, .ref q_3])), (q_1, .inl (cI, 5, .inl (fun _ => 0))), (q_2, .inl (cI, 7, .inl (fun _ => 0))), (q_3, .inl (cI, 7, .inl (fun _ => 0)))] := hD
  exact ret_v (post := (fun (u : Nat × Nat × Nat) => True)) (W1 := (fun u => [(h0, .inr (1, [.ref ln, .int 0, .int 0, .int 0, .int 0, .ref u.1, .ref u.2.1, .ref u.2.2])), (u.1, .inl (cI, 5, .inl (fun _ => 0))), (u.2.1, .inl (cI, 7, .inl (fun _ => 0))), (u.2.2, .inl (cI, 7, .inl (fun _ => 0)))])) (q_1, q_2, q_3) hx hb hr hlocks hQ hK hP hD hS ⟨by decide, by decide⟩ dX1_init_52 trivial

set_option maxHeartbeats 600000 in
set_option maxRecDepth 100000 in
theorem c_X2_init (l : Launch) (D : va_G) (cI cZ cM : ClassId) (h0 : Nat) (ln : Nat) (sz : Nat)  : Cv l yX2_init wsX2_init ({ frames := 2, cells := 5, slots := 32, locals := 33 } : Room) D cI cZ cM [.ref h0, .ref ln] [(h0, .inr (2, [.null, .null, .null]))] sz (fun (u : Nat × Nat × Nat × Nat × Nat) => True) (fun u => [(h0, .inr (2, [.ref ln, .ref u.1, .ref u.2.1])), (u.1, .inr (1, [.ref ln, .int 0, .int 0, .int 0, .int 0, .ref u.2.2.1, .ref u.2.2.2.1, .ref u.2.2.2.2])), (u.2.2.1, .inl (cI, 5, .inl (fun _ => 0))), (u.2.2.2.1, .inl (cI, 7, .inl (fun _ => 0))), (u.2.2.2.2, .inl (cI, 7, .inl (fun _ => 0))), (u.2.1, .inl (cI, 5, .inl (fun _ => 0)))]) 5 32 := by
  refine begins (l := l) (y := yX2_init) (ws := wsX2_init) (av := [.ref h0, .ref ln]) (Qc := fun A => va_Qv (fun (u : Nat × Nat × Nat × Nat × Nat) => True) (fun u => Wd D cI cZ cM A ((fun u => [(h0, .inr (2, [.ref ln, .ref u.1, .ref u.2.1])), (u.1, .inr (1, [.ref ln, .int 0, .int 0, .int 0, .int 0, .ref u.2.2.1, .ref u.2.2.2.1, .ref u.2.2.2.2])), (u.2.2.1, .inl (cI, 5, .inl (fun _ => 0))), (u.2.2.2.1, .inl (cI, 7, .inl (fun _ => 0))), (u.2.2.2.2, .inl (cI, 7, .inl (fun _ => 0))), (u.2.1, .inl (cI, 5, .inl (fun _ => 0)))]) u)) A) cX2_init 2 none (by decide) rfl (Nat.le_of_ble_eq_true rfl) ?_
  intro p e s m args below meth c R Q A ls hBd hR hQ hA hS hK hP hD hl
  obtain ⟨hx, hb, hr, hts, hown, hlocks, hin, hml⟩ := hBd
  have hl : lv_has ls 2 [(0, .ref h0), (1, .ref ln)] := hl
  have iX2 : ∀ w ∈ wsX20, w ∈ wsX2_init := fun _ h => List.mem_cons_of_mem _ (List.mem_append_left _ (List.mem_append_right _ h))
  have iX1 : ∀ w ∈ wsX10, w ∈ wsX2_init := fun _ h => List.mem_cons_of_mem _ (List.mem_append_right _ h)
  refine lv_aload_n hx hb dX2_init_0 rfl (lv_at hl 0 rfl) ?_
  refine W.objInit hx hb hown (hts (.methodLink RX2 3 objectInit) (List.mem_of_getElem? (i := 1) rfl)) (hts (.instanceMethod objectInit) (List.mem_of_getElem? (i := 2) rfl)) (hts (.code objectInit ⟨#[0xb1]⟩ 1 none) (List.mem_of_getElem? (i := 3) rfl)) rfl (by rw [hml]; exact hl.1) rfl dX2_init_1 (by rw [hR]; exact Nat.le_of_ble_eq_true rfl) (by rw [hR]; exact Nat.le_of_ble_eq_true rfl) ?_
  refine W.eq (g2 := F0 m 4 ls []) rfl ?_
  refine lv_aload_n hx hb dX2_init_4 rfl (lv_at hl 0 rfl) ?_
  refine lv_iconst (v := 5) hx hb dX2_init_5 (by decide) ?_
  refine newI hx hb (hts (.arrayClass .int) (List.mem_of_getElem? (i := 4) rfl)) hK hP hD hS hA 5 (by decide) (by decide) (by decide) (by rw [hR]; exact Nat.le_of_ble_eq_true rfl) (by rw [hR]; exact Nat.le_of_ble_eq_true rfl) dX2_init_6 (fun q_1 H hP hD hS => ?_)
  have hP : va_P D vwCl [(h0, .inr (2, [.null, .null, .null])), (q_1, .inl (cI, 5, .inl (fun _ => 0)))] H := hP
  have hD : va_D A [(h0, .inr (2, [.null, .null, .null])), (q_1, .inl (cI, 5, .inl (fun _ => 0)))] := hD
  refine W.widen (k := 1) (n := 5) (by omega) (by omega) ?_
  refine va_putF (D := D) (ci := 2) (v := .ref q_1) (ty := (.array .int)) (C := RX2) (T := TX2) (N := 3) hx hb hts iX2 tyX2 tyX2_ok nmX2 hown hK hP hD hS 0 rfl rfl 2 (by decide) (hts (.fieldLink RX2 9 "PunchedTicket$Trial" "rides" "[I") (List.mem_of_getElem? (i := 5) rfl)) (fun _ h9 => h9) rfl hin rfl (by decide +kernel) rfl rfl (Nat.le_of_ble_eq_true rfl) dX2_init_8 (fun H locs hP hD hS => ?_)
  have hP : va_P D vwCl [(h0, .inr (2, [.null, .null, .ref q_1])), (q_1, .inl (cI, 5, .inl (fun _ => 0)))] H := hP
  have hD : va_D A [(h0, .inr (2, [.null, .null, .ref q_1])), (q_1, .inl (cI, 5, .inl (fun _ => 0)))] := hD
  refine lv_aload_n hx hb dX2_init_11 rfl (lv_at hl 0 rfl) ?_
  refine lv_aload_n hx hb dX2_init_12 rfl (lv_at hl 1 rfl) ?_
  refine va_putF (D := D) (ci := 2) (v := .ref ln) (ty := (.object "PunchedTicket$Line")) (C := RX2) (T := TX2) (N := 3) hx hb hts iX2 tyX2 tyX2_ok nmX2 hown hK hP hD hS 0 rfl rfl 0 (by decide) (hts (.fieldLink RX2 15 "PunchedTicket$Trial" "line" "LPunchedTicket$Line;") (List.mem_of_getElem? (i := 6) rfl)) (fun _ h9 => h9) rfl hin rfl (by decide +kernel) rfl rfl (Nat.le_of_ble_eq_true rfl) dX2_init_13 (fun H locs hP hD hS => ?_)
  have hP : va_P D vwCl [(h0, .inr (2, [.ref ln, .null, .ref q_1])), (q_1, .inl (cI, 5, .inl (fun _ => 0)))] H := hP
  have hD : va_D A [(h0, .inr (2, [.ref ln, .null, .ref q_1])), (q_1, .inl (cI, 5, .inl (fun _ => 0)))] := hD
  refine lv_aload_n hx hb dX2_init_16 rfl (lv_at hl 0 rfl) ?_
  refine va_new (ci := 1) (fs := [.null, .int 0, .int 0, .int 0, .int 0, .null, .null, .null]) (C := RX1) (T := TX1) (N := 8) hx hb hts iX1 tyX1 tyX1_ok hown (hts (.classLink RX2 19 RX1) (List.mem_of_getElem? (i := 7) rfl)) (hts (.instantiable RX1 8) (List.mem_of_getElem? (i := 8) rfl)) (hts (.initialized RX1) (List.mem_of_getElem? (i := 9) rfl)) hK hP hD hS hA rfl (fun j hj => by rcases (show j = 0 ∨ j = 1 ∨ j = 2 ∨ j = 3 ∨ j = 4 ∨ j = 5 ∨ j = 6 ∨ j = 7 by omega) with rfl | rfl | rfl | rfl | rfl | rfl | rfl | rfl <;> rfl) (by rw [hR]; exact Nat.le_of_ble_eq_true rfl) (by rw [hR]; exact Nat.le_of_ble_eq_true rfl) dX2_init_17 (fun q_2 H hP hD hS => ?_)
  have hP : va_P D vwCl [(h0, .inr (2, [.ref ln, .null, .ref q_1])), (q_1, .inl (cI, 5, .inl (fun _ => 0))), (q_2, .inr (1, [.null, .int 0, .int 0, .int 0, .int 0, .null, .null, .null]))] H := hP
  have hD : va_D A [(h0, .inr (2, [.ref ln, .null, .ref q_1])), (q_1, .inl (cI, 5, .inl (fun _ => 0))), (q_2, .inr (1, [.null, .int 0, .int 0, .int 0, .int 0, .null, .null, .null]))] := hD
  refine W.widen (k := 2) (n := 13) (by omega) (by omega) ?_
  refine lv_dup hx hb dX2_init_20 rfl ?_
  refine lv_aload_n hx hb dX2_init_21 rfl (lv_at hl 1 rfl) ?_
  refine cI_v (As := [.ref ln]) (rest := [.ref q_2, .ref h0]) ⟨hx, hb, hml, hown, hts⟩ (c_X1_init l D cI cZ cM q_2 ln _ ) (cwI 1 hts gX2_init_X1_init rfl rfl rfl (hts (.initialized RX1) (List.mem_of_getElem? (i := 9) rfl)) (hts (.methodLink RX2 21 yX1_init) (List.mem_of_getElem? (i := 11) rfl)) (hts (.instanceMethod yX1_init) (List.mem_of_getElem? (i := 12) rfl)) rfl (by decide +kernel) ⟨by rw [hR]; decide, by rw [hR]; decide⟩) hK hP hD hS hA [2] [0, 1] rfl rfl (by decide) (by decide) (by decide) hl.1 rfl rfl (Nat.le_of_ble_eq_true rfl) dX2_init_22 ⟨by rw [hR]; decide, by rw [hR]; decide⟩ (fun u_7 H locs hw hP hD hS => ?_)
  obtain ⟨nat_3, nfd_4, nhd_5⟩ := u_7
  have hP : va_P D vwCl [(h0, .inr (2, [.ref ln, .null, .ref q_1])), (q_1, .inl (cI, 5, .inl (fun _ => 0))), (q_2, .inr (1, [.ref ln, .int 0, .int 0, .int 0, .int 0, .ref nat_3, .ref nfd_4, .ref nhd_5])), (nat_3, .inl (cI, 5, .inl (fun _ => 0))), (nfd_4, .inl (cI, 7, .inl (fun _ => 0))), (nhd_5, .inl (cI, 7, .inl (fun _ => 0)))] H := hP.sub [0, 1, 2, 3, 4, 5] rfl
  have hD : va_D A [(h0, .inr (2, [.ref ln, .null, .ref q_1])), (q_1, .inl (cI, 5, .inl (fun _ => 0))), (q_2, .inr (1, [.ref ln, .int 0, .int 0, .int 0, .int 0, .ref nat_3, .ref nfd_4, .ref nhd_5])), (nat_3, .inl (cI, 5, .inl (fun _ => 0))), (nfd_4, .inl (cI, 7, .inl (fun _ => 0))), (nhd_5, .inl (cI, 7, .inl (fun _ => 0)))] := hD.sub [0, 1, 2, 3, 4, 5] (by decide) rfl
  refine W.widen (k := 5) (n := 32) (by omega) (by omega) ?_
  refine va_putF (D := D) (ci := 2) (v := .ref q_2) (ty := (.object "PunchedTicket$Moment")) (C := RX2) (T := TX2) (N := 3) hx hb hts iX2 tyX2 tyX2_ok nmX2 hown hK hP hD hS 0 rfl rfl 1 (by decide) (hts (.fieldLink RX2 24 "PunchedTicket$Trial" "moment" "LPunchedTicket$Moment;") (List.mem_of_getElem? (i := 10) rfl)) (fun _ h9 => h9) rfl hin rfl (by decide +kernel) rfl rfl (Nat.le_of_ble_eq_true rfl) dX2_init_25 (fun H locs hP hD hS => ?_)
  have hP : va_P D vwCl [(h0, .inr (2, [.ref ln, .ref q_2, .ref q_1])), (q_1, .inl (cI, 5, .inl (fun _ => 0))), (q_2, .inr (1, [.ref ln, .int 0, .int 0, .int 0, .int 0, .ref nat_3, .ref nfd_4, .ref nhd_5])), (nat_3, .inl (cI, 5, .inl (fun _ => 0))), (nfd_4, .inl (cI, 7, .inl (fun _ => 0))), (nhd_5, .inl (cI, 7, .inl (fun _ => 0)))] H := hP
  have hD : va_D A [(h0, .inr (2, [.ref ln, .ref q_2, .ref q_1])), (q_1, .inl (cI, 5, .inl (fun _ => 0))), (q_2, .inr (1, [.ref ln, .int 0, .int 0, .int 0, .int 0, .ref nat_3, .ref nfd_4, .ref nhd_5])), (nat_3, .inl (cI, 5, .inl (fun _ => 0))), (nfd_4, .inl (cI, 7, .inl (fun _ => 0))), (nhd_5, .inl (cI, 7, .inl (fun _ => 0)))] := hD
  exact ret_v (post := (fun (u : Nat × Nat × Nat × Nat × Nat) => True)) (W1 := (fun u => [(h0, .inr (2, [.ref ln, .ref u.1, .ref u.2.1])), (u.1, .inr (1, [.ref ln, .int 0, .int 0, .int 0, .int 0, .ref u.2.2.1, .ref u.2.2.2.1, .ref u.2.2.2.2])), (u.2.2.1, .inl (cI, 5, .inl (fun _ => 0))), (u.2.2.2.1, .inl (cI, 7, .inl (fun _ => 0))), (u.2.2.2.2, .inl (cI, 7, .inl (fun _ => 0))), (u.2.1, .inl (cI, 5, .inl (fun _ => 0)))])) (q_2, q_1, nat_3, nfd_4, nhd_5) hx hb hr hlocks hQ hK (hP.sub [0, 2, 3, 4, 5, 1] rfl) (hD.sub [0, 2, 3, 4, 5, 1] (by decide) rfl) hS ⟨by decide, by decide⟩ dX2_init_28 trivial
end
section
set_option maxRecDepth 20000 in
theorem ggX2_start_X1_copy : GoodIn wsX2_start wsX1_copy := goodIn_r _ [6, 7, 8, 9, 10, 11, 12, 13, 14, 15, 16, 17, 21, 22, 23, 24, 25, 26, 27, 28] (by decide +kernel) (by decide +kernel)
set_option maxRecDepth 20000 in
theorem gX2_start_X1_copy : GoodIn wsX2_start (wsV RX2 28 RX1 yX1_copy wsX1_copy) := goodIn_app (goodIn_of _ (by decide +kernel)) ggX2_start_X1_copy
theorem dX2_start_0 : decode cX2_start 0 = .ok (.aload_n 0, 1) := by decide +kernel
theorem dX2_start_1 : decode cX2_start 1 = .ok (.getfield 24, 3) := by decide +kernel
theorem dX2_start_4 : decode cX2_start 4 = .ok (.aload_n 1, 1) := by decide +kernel
theorem dX2_start_5 : decode cX2_start 5 = .ok (.invokevirtual 28, 3) := by decide +kernel
theorem dX2_start_8 : decode cX2_start 8 = .ok (.return_, 1) := by decide +kernel
set_option maxRecDepth 20000 in
theorem ggX2_passDaysTo_X1_passDay : GoodIn wsX2_passDaysTo wsX1_passDay := goodIn_r _ [8, 9, 10, 11, 12, 13, 14, 15, 7, 16, 17, 18, 19, 20, 21, 22, 23, 24, 25, 26, 27, 28, 29, 30, 31, 32, 33, 34, 35, 36, 37, 38, 39, 40, 41, 42, 43, 44, 45, 46, 47, 48, 49, 50, 54, 55, 56, 57, 58, 59, 60, 61, 62, 63, 64, 65, 66, 67, 68, 69, 70, 71] (by decide +kernel) (by decide +kernel)
set_option maxRecDepth 20000 in
theorem gX2_passDaysTo_X1_passDay : GoodIn wsX2_passDaysTo (wsV RX2 54 RX1 yX1_passDay wsX1_passDay) := goodIn_app (goodIn_of _ (by decide +kernel)) ggX2_passDaysTo_X1_passDay
theorem dX2_passDaysTo_0 : decode cX2_passDaysTo 0 = .ok (.aload_n 0, 1) := by decide +kernel
theorem dX2_passDaysTo_1 : decode cX2_passDaysTo 1 = .ok (.getfield 24, 3) := by decide +kernel
theorem dX2_passDaysTo_4 : decode cX2_passDaysTo 4 = .ok (.getfield 51, 3) := by decide +kernel
theorem dX2_passDaysTo_7 : decode cX2_passDaysTo 7 = .ok (.istore_n 2, 1) := by decide +kernel
theorem dX2_passDaysTo_8 : decode cX2_passDaysTo 8 = .ok (.iload_n 2, 1) := by decide +kernel
theorem dX2_passDaysTo_9 : decode cX2_passDaysTo 9 = .ok (.iload_n 1, 1) := by decide +kernel
theorem dX2_passDaysTo_10 : decode cX2_passDaysTo 10 = .ok (.if_icmp .ge 21, 3) := by decide +kernel
theorem dX2_passDaysTo_13 : decode cX2_passDaysTo 13 = .ok (.aload_n 0, 1) := by decide +kernel
theorem dX2_passDaysTo_14 : decode cX2_passDaysTo 14 = .ok (.getfield 24, 3) := by decide +kernel
theorem dX2_passDaysTo_17 : decode cX2_passDaysTo 17 = .ok (.aload_n 0, 1) := by decide +kernel
theorem dX2_passDaysTo_18 : decode cX2_passDaysTo 18 = .ok (.getfield 9, 3) := by decide +kernel
theorem dX2_passDaysTo_21 : decode cX2_passDaysTo 21 = .ok (.invokevirtual 54, 3) := by decide +kernel
theorem dX2_passDaysTo_24 : decode cX2_passDaysTo 24 = .ok (.pop, 1) := by decide +kernel
theorem dX2_passDaysTo_25 : decode cX2_passDaysTo 25 = .ok (.iinc 2 1, 3) := by decide +kernel
theorem dX2_passDaysTo_28 : decode cX2_passDaysTo 28 = .ok (.goto (-20), 3) := by decide +kernel
theorem dX2_passDaysTo_31 : decode cX2_passDaysTo 31 = .ok (.return_, 1) := by decide +kernel
set_option maxRecDepth 20000 in
theorem ggX2_gladAtEnd_X2_passDaysTo : GoodIn wsX2_gladAtEnd wsX2_passDaysTo := goodIn_r _ [6, 1, 7, 8, 9, 10, 11, 12, 13, 14, 15, 16, 17, 18, 19, 20, 21, 22, 23, 24, 25, 26, 27, 28, 29, 30, 31, 32, 33, 34, 35, 36, 37, 38, 39, 40, 41, 42, 43, 44, 45, 46, 47, 48, 49, 50, 51, 52, 53, 54, 55, 61, 62, 63, 64, 65, 66, 67, 68, 69, 70, 71, 72, 73, 74, 75, 76, 77, 78, 79, 80, 81] (by decide +kernel) (by decide +kernel)
set_option maxRecDepth 20000 in
theorem gX2_gladAtEnd_X2_passDaysTo : GoodIn wsX2_gladAtEnd (wsV RX2 64 RX2 yX2_passDaysTo wsX2_passDaysTo) := goodIn_app (goodIn_of _ (by decide +kernel)) ggX2_gladAtEnd_X2_passDaysTo
set_option maxRecDepth 20000 in
theorem ggX2_gladAtEnd_X1_gladNow : GoodIn wsX2_gladAtEnd wsX1_gladNow := goodIn_r _ [59, 14, 15, 16, 60, 64, 65, 66, 67, 68, 69, 70, 71, 72, 73, 74, 75, 76, 77, 78, 79, 80, 81] (by decide +kernel) (by decide +kernel)
set_option maxRecDepth 20000 in
theorem gX2_gladAtEnd_X1_gladNow : GoodIn wsX2_gladAtEnd (wsV RX2 68 RX1 yX1_gladNow wsX1_gladNow) := goodIn_app (goodIn_of _ (by decide +kernel)) ggX2_gladAtEnd_X1_gladNow
theorem dX2_gladAtEnd_0 : decode cX2_gladAtEnd 0 = .ok (.aload_n 0, 1) := by decide +kernel
theorem dX2_gladAtEnd_1 : decode cX2_gladAtEnd 1 = .ok (.bipush 10, 2) := by decide +kernel
theorem dX2_gladAtEnd_3 : decode cX2_gladAtEnd 3 = .ok (.invokevirtual 64, 3) := by decide +kernel
theorem dX2_gladAtEnd_6 : decode cX2_gladAtEnd 6 = .ok (.aload_n 0, 1) := by decide +kernel
theorem dX2_gladAtEnd_7 : decode cX2_gladAtEnd 7 = .ok (.getfield 24, 3) := by decide +kernel
theorem dX2_gladAtEnd_10 : decode cX2_gladAtEnd 10 = .ok (.invokevirtual 68, 3) := by decide +kernel
theorem dX2_gladAtEnd_13 : decode cX2_gladAtEnd 13 = .ok (.ireturn, 1) := by decide +kernel
set_option maxRecDepth 20000 in
theorem ggX2_firstDouble_X1_passDay : GoodIn wsX2_firstDouble wsX1_passDay := goodIn_r _ [8, 9, 10, 11, 12, 13, 14, 15, 7, 16, 17, 18, 19, 20, 21, 22, 23, 24, 25, 26, 27, 28, 29, 30, 31, 32, 33, 34, 35, 36, 37, 38, 39, 40, 41, 42, 43, 44, 45, 46, 47, 48, 49, 50, 88, 89, 90, 91, 92, 93, 94, 95, 96, 97, 98, 99, 100, 101, 102, 103, 104, 105] (by decide +kernel) (by decide +kernel)
set_option maxRecDepth 20000 in
theorem gX2_firstDouble_X1_passDay : GoodIn wsX2_firstDouble (wsV RX2 54 RX1 yX1_passDay wsX1_passDay) := goodIn_app (goodIn_of _ (by decide +kernel)) ggX2_firstDouble_X1_passDay
set_option maxRecDepth 20000 in
theorem ggX2_firstDouble_X2_barredSeats : GoodIn wsX2_firstDouble wsX2_barredSeats := goodIn_r _ [55, 56, 57, 3, 58, 59, 60, 54, 61, 1, 62, 63, 64, 65, 66, 67, 68, 69, 36, 37, 7, 38, 17, 70, 71, 72, 73, 74, 75, 76, 77, 78, 79, 80, 81, 82, 83, 84, 85, 86, 87, 96, 97, 98, 99, 100, 101, 102, 103, 104, 105, 88, 89, 90, 91, 92, 93, 94, 95] (by decide +kernel) (by decide +kernel)
set_option maxRecDepth 20000 in
theorem gX2_firstDouble_X2_barredSeats : GoodIn wsX2_firstDouble (wsV RX2 76 RX2 yX2_barredSeats wsX2_barredSeats) := goodIn_app (goodIn_of _ (by decide +kernel)) ggX2_firstDouble_X2_barredSeats
theorem dX2_firstDouble_0 : decode cX2_firstDouble 0 = .ok (.aload_n 0, 1) := by decide +kernel
theorem dX2_firstDouble_1 : decode cX2_firstDouble 1 = .ok (.getfield 24, 3) := by decide +kernel
theorem dX2_firstDouble_4 : decode cX2_firstDouble 4 = .ok (.getfield 51, 3) := by decide +kernel
theorem dX2_firstDouble_7 : decode cX2_firstDouble 7 = .ok (.istore_n 1, 1) := by decide +kernel
theorem dX2_firstDouble_8 : decode cX2_firstDouble 8 = .ok (.iload_n 1, 1) := by decide +kernel
theorem dX2_firstDouble_9 : decode cX2_firstDouble 9 = .ok (.bipush 10, 2) := by decide +kernel
theorem dX2_firstDouble_11 : decode cX2_firstDouble 11 = .ok (.if_icmp .ge 32, 3) := by decide +kernel
theorem dX2_firstDouble_14 : decode cX2_firstDouble 14 = .ok (.aload_n 0, 1) := by decide +kernel
theorem dX2_firstDouble_15 : decode cX2_firstDouble 15 = .ok (.getfield 24, 3) := by decide +kernel
theorem dX2_firstDouble_18 : decode cX2_firstDouble 18 = .ok (.aload_n 0, 1) := by decide +kernel
theorem dX2_firstDouble_19 : decode cX2_firstDouble 19 = .ok (.getfield 9, 3) := by decide +kernel
theorem dX2_firstDouble_22 : decode cX2_firstDouble 22 = .ok (.invokevirtual 54, 3) := by decide +kernel
theorem dX2_firstDouble_25 : decode cX2_firstDouble 25 = .ok (.pop, 1) := by decide +kernel
theorem dX2_firstDouble_26 : decode cX2_firstDouble 26 = .ok (.aload_n 0, 1) := by decide +kernel
theorem dX2_firstDouble_27 : decode cX2_firstDouble 27 = .ok (.bipush (-9), 2) := by decide +kernel
theorem dX2_firstDouble_29 : decode cX2_firstDouble 29 = .ok (.invokevirtual 76, 3) := by decide +kernel
theorem dX2_firstDouble_32 : decode cX2_firstDouble 32 = .ok (.ifCond .eq 5, 3) := by decide +kernel
theorem dX2_firstDouble_37 : decode cX2_firstDouble 37 = .ok (.iinc 1 1, 3) := by decide +kernel
theorem dX2_firstDouble_40 : decode cX2_firstDouble 40 = .ok (.goto (-32), 3) := by decide +kernel
theorem dX2_firstDouble_43 : decode cX2_firstDouble 43 = .ok (.bipush (-9), 2) := by decide +kernel
theorem dX2_firstDouble_45 : decode cX2_firstDouble 45 = .ok (.ireturn, 1) := by decide +kernel
theorem dX2_barredSeats_0 : decode cX2_barredSeats 0 = .ok (.iconst 0, 1) := by decide +kernel
theorem dX2_barredSeats_1 : decode cX2_barredSeats 1 = .ok (.istore_n 2, 1) := by decide +kernel
theorem dX2_barredSeats_2 : decode cX2_barredSeats 2 = .ok (.iconst 0, 1) := by decide +kernel
theorem dX2_barredSeats_3 : decode cX2_barredSeats 3 = .ok (.istore_n 3, 1) := by decide +kernel
theorem dX2_barredSeats_4 : decode cX2_barredSeats 4 = .ok (.iload_n 3, 1) := by decide +kernel
theorem dX2_barredSeats_5 : decode cX2_barredSeats 5 = .ok (.aload_n 0, 1) := by decide +kernel
theorem dX2_barredSeats_6 : decode cX2_barredSeats 6 = .ok (.getfield 15, 3) := by decide +kernel
theorem dX2_barredSeats_9 : decode cX2_barredSeats 9 = .ok (.getfield 98, 3) := by decide +kernel
theorem dX2_barredSeats_12 : decode cX2_barredSeats 12 = .ok (.if_icmp .ge 63, 3) := by decide +kernel
theorem dX2_barredSeats_75 : decode cX2_barredSeats 75 = .ok (.iload_n 2, 1) := by decide +kernel
theorem dX2_barredSeats_76 : decode cX2_barredSeats 76 = .ok (.ireturn, 1) := by decide +kernel
set_option maxHeartbeats 600000 in
set_option maxRecDepth 100000 in
theorem c_X2_start (l : Launch) (D : va_G) (cI cZ cM : ClassId) (h0 : Nat) (h1 : Nat) (tl : Nat) (mo : Nat) (rd : Nat) (ln : Nat) (md : Int32) (mt : Int32) (mr : Int32) (mg : Int32) (mat : Nat) (mfd : Nat) (mhd : Nat) (ql : Nat) (qd : Int32) (qt : Int32) (qr : Int32) (qg : Int32) (qat : Nat) (qfd : Nat) (qhd : Nat) (mFat : Nat → Int32) (mFfd : Nat → Int32) (mFhd : Nat → Int32) (qFat : Nat → Int32) (qFfd : Nat → Int32) (qFhd : Nat → Int32) (sz : Nat)  : Cv l yX2_start wsX2_start ({ frames := 2, cells := 0, slots := 0, locals := 47 } : Room) D cI cZ cM [.ref h0, .ref h1] [(h0, .inr (2, [.ref tl, .ref mo, .ref rd])), (mo, .inr (1, [.ref ln, .int md, .int mt, .int mr, .int mg, .ref mat, .ref mfd, .ref mhd])), (h1, .inr (1, [.ref ql, .int qd, .int qt, .int qr, .int qg, .ref qat, .ref qfd, .ref qhd])), (mat, .inl (cI, 5, .inl mFat)), (mfd, .inl (cI, 7, .inl mFfd)), (mhd, .inl (cI, 7, .inl mFhd)), (qat, .inl (cI, 5, .inl qFat)), (qfd, .inl (cI, 7, .inl qFfd)), (qhd, .inl (cI, 7, .inl qFhd))] sz (fun (u : (Nat → Int32) × (Nat → Int32) × (Nat → Int32)) => True) (fun u => [(h0, .inr (2, [.ref tl, .ref mo, .ref rd])), (mo, .inr (1, [.ref ln, .int qd, .int qt, .int qr, .int qg, .ref mat, .ref mfd, .ref mhd])), (h1, .inr (1, [.ref ql, .int qd, .int qt, .int qr, .int qg, .ref qat, .ref qfd, .ref qhd])), (mat, .inl (cI, 5, .inl u.1)), (mfd, .inl (cI, 7, .inl u.2.1)), (mhd, .inl (cI, 7, .inl u.2.2)), (qat, .inl (cI, 5, .inl qFat)), (qfd, .inl (cI, 7, .inl qFfd)), (qhd, .inl (cI, 7, .inl qFhd))]) 0 0 := by
  refine begins (l := l) (y := yX2_start) (ws := wsX2_start) (av := [.ref h0, .ref h1]) (Qc := fun A => va_Qv (fun (u : (Nat → Int32) × (Nat → Int32) × (Nat → Int32)) => True) (fun u => Wd D cI cZ cM A ((fun u => [(h0, .inr (2, [.ref tl, .ref mo, .ref rd])), (mo, .inr (1, [.ref ln, .int qd, .int qt, .int qr, .int qg, .ref mat, .ref mfd, .ref mhd])), (h1, .inr (1, [.ref ql, .int qd, .int qt, .int qr, .int qg, .ref qat, .ref qfd, .ref qhd])), (mat, .inl (cI, 5, .inl u.1)), (mfd, .inl (cI, 7, .inl u.2.1)), (mhd, .inl (cI, 7, .inl u.2.2)), (qat, .inl (cI, 5, .inl qFat)), (qfd, .inl (cI, 7, .inl qFfd)), (qhd, .inl (cI, 7, .inl qFhd))]) u)) A) cX2_start 2 none (by decide) rfl (Nat.le_of_ble_eq_true rfl) ?_
  intro p e s m args below meth c R Q A ls hBd hR hQ hA hS hK hP hD hl
  obtain ⟨hx, hb, hr, hts, hown, hlocks, hin, hml⟩ := hBd
  have hl : lv_has ls 2 [(0, .ref h0), (1, .ref h1)] := hl
  have iX2 : ∀ w ∈ wsX20, w ∈ wsX2_start := fun _ h => List.mem_cons_of_mem _ (List.mem_append_left _ (List.mem_append_right _ h))
  have iX1 : ∀ w ∈ wsX10, w ∈ wsX2_start := fun _ h => List.mem_cons_of_mem _ (List.mem_append_right _ h)
  refine lv_aload_n hx hb dX2_start_0 rfl (lv_at hl 0 rfl) ?_
  refine va_get (D := D) (ci := 2) (v := .ref mo) (C := RX2) (T := TX2) (N := 3) hx hb hts iX2 hown hK hP 0 rfl rfl 1 (by decide) (hts (.fieldLink RX2 24 "PunchedTicket$Trial" "moment" "LPunchedTicket$Moment;") (List.mem_of_getElem? (i := 1) rfl)) (fun _ h9 => h9) rfl dX2_start_1 ?_
  refine lv_aload_n hx hb dX2_start_4 rfl (lv_at hl 1 rfl) ?_
  refine cV_v (As := [.ref h1]) (rest := []) ⟨hx, hb, hml, hown, hts⟩ (c_X1_copy l D cI cZ cM mo h1 ln md mt mr mg mat mfd mhd ql qd qt qr qg qat qfd qhd mFat mFfd mFhd qFat qFfd qFhd _ ) (cwV 1 hts gX2_start_X1_copy rfl rfl rfl (by decide +kernel) ⟨by rw [hR]; decide, by rw [hR]; decide⟩) hK hP hD hS hA [1, 2, 3, 4, 5, 6, 7, 8] [0] rfl rfl (by decide) (by decide) (by decide) rfl 1 rfl hl.1 rfl rfl (Nat.le_of_ble_eq_true rfl) dX2_start_5 ⟨by rw [hR]; decide, by rw [hR]; decide⟩ (fun u_5 H locs hw hP hD hS => ?_)
  obtain ⟨Gat_1, Gfd_2, Ghd_3⟩ := u_5
  have hP : va_P D vwCl [(h0, .inr (2, [.ref tl, .ref mo, .ref rd])), (mo, .inr (1, [.ref ln, .int qd, .int qt, .int qr, .int qg, .ref mat, .ref mfd, .ref mhd])), (h1, .inr (1, [.ref ql, .int qd, .int qt, .int qr, .int qg, .ref qat, .ref qfd, .ref qhd])), (mat, .inl (cI, 5, .inl Gat_1)), (mfd, .inl (cI, 7, .inl Gfd_2)), (mhd, .inl (cI, 7, .inl Ghd_3)), (qat, .inl (cI, 5, .inl qFat)), (qfd, .inl (cI, 7, .inl qFfd)), (qhd, .inl (cI, 7, .inl qFhd))] H := hP.sub [0, 1, 2, 3, 4, 5, 6, 7, 8] rfl
  have hD : va_D A [(h0, .inr (2, [.ref tl, .ref mo, .ref rd])), (mo, .inr (1, [.ref ln, .int qd, .int qt, .int qr, .int qg, .ref mat, .ref mfd, .ref mhd])), (h1, .inr (1, [.ref ql, .int qd, .int qt, .int qr, .int qg, .ref qat, .ref qfd, .ref qhd])), (mat, .inl (cI, 5, .inl Gat_1)), (mfd, .inl (cI, 7, .inl Gfd_2)), (mhd, .inl (cI, 7, .inl Ghd_3)), (qat, .inl (cI, 5, .inl qFat)), (qfd, .inl (cI, 7, .inl qFfd)), (qhd, .inl (cI, 7, .inl qFhd))] := hD.sub [0, 1, 2, 3, 4, 5, 6, 7, 8] (by decide) rfl
  refine W.widen (k := 0) (n := 0) (Nat.le_refl _) (Nat.le_refl _) ?_
  exact ret_v (post := (fun (u : (Nat → Int32) × (Nat → Int32) × (Nat → Int32)) => True)) (W1 := (fun u => [(h0, .inr (2, [.ref tl, .ref mo, .ref rd])), (mo, .inr (1, [.ref ln, .int qd, .int qt, .int qr, .int qg, .ref mat, .ref mfd, .ref mhd])), (h1, .inr (1, [.ref ql, .int qd, .int qt, .int qr, .int qg, .ref qat, .ref qfd, .ref qhd])), (mat, .inl (cI, 5, .inl u.1)), (mfd, .inl (cI, 7, .inl u.2.1)), (mhd, .inl (cI, 7, .inl u.2.2)), (qat, .inl (cI, 5, .inl qFat)), (qfd, .inl (cI, 7, .inl qFfd)), (qhd, .inl (cI, 7, .inl qFhd))])) (Gat_1, Gfd_2, Ghd_3) hx hb hr hlocks hQ hK hP hD hS ⟨by decide, by decide⟩ dX2_start_8 trivial

set_option maxHeartbeats 600000 in
set_option maxRecDepth 100000 in
theorem c_X2_passDaysTo (l : Launch) (D : va_G) (cI cZ cM : ClassId) (h0 : Nat) (n : Int32) (tl : Nat) (mo : Nat) (rd : Nat) (ln : Nat) (md : Int32) (mt : Int32) (mr : Int32) (mg : Int32) (mat : Nat) (mfd : Nat) (mhd : Nat) (lpe : Int32) (ltk : Int32) (lho : Nat) (lli : Nat) (lki : Nat) (lfd : Nat) (lfr : Nat) (lto : Nat) (lse : Nat) (lhl : Nat) (lFto : Nat → Int32) (lFfr : Nat → Int32) (lFki : Nat → Int32) (mFat : Nat → Int32) (mFfd : Nat → Int32) (mFhd : Nat → Int32) (Frd : Nat → Int32) (sz : Nat) (h_mt : 0 ≤ mt.toInt ∧ mt.toInt ≤ 7) (h_lpe : 0 ≤ lpe.toInt ∧ lpe.toInt ≤ 5) (h_md : 0 ≤ md.toInt ∧ md.toInt ≤ 10) (h_n : 0 ≤ n.toInt ∧ n.toInt ≤ 10) : Cv l yX2_passDaysTo wsX2_passDaysTo ({ frames := 3, cells := 0, slots := 0, locals := 71 } : Room) D cI cZ cM [.ref h0, .int n] [(h0, .inr (2, [.ref tl, .ref mo, .ref rd])), (mo, .inr (1, [.ref ln, .int md, .int mt, .int mr, .int mg, .ref mat, .ref mfd, .ref mhd])), (ln, .inr (0, [.int lpe, .int ltk, .ref lho, .ref lli, .ref lki, .ref lfd, .ref lfr, .ref lto, .ref lse, .ref lhl])), (lto, .inl (cI, 7, .inl lFto)), (lfr, .inl (cI, 7, .inl lFfr)), (lki, .inl (cI, 5, .inl lFki)), (mat, .inl (cI, 5, .inl mFat)), (mfd, .inl (cI, 7, .inl mFfd)), (mhd, .inl (cI, 7, .inl mFhd)), (rd, .inl (cI, 5, .inl Frd))] sz (fun (u : Int32 × Int32 × Int32 × (Nat → Int32) × (Nat → Int32) × (Nat → Int32) × (Nat → Int32)) => md.toInt ≤ n.toInt → u.1.toInt = n.toInt) (fun u => [(h0, .inr (2, [.ref tl, .ref mo, .ref rd])), (mo, .inr (1, [.ref ln, .int u.1, .int mt, .int u.2.1, .int u.2.2.1, .ref mat, .ref mfd, .ref mhd])), (ln, .inr (0, [.int lpe, .int ltk, .ref lho, .ref lli, .ref lki, .ref lfd, .ref lfr, .ref lto, .ref lse, .ref lhl])), (lto, .inl (cI, 7, .inl lFto)), (lfr, .inl (cI, 7, .inl lFfr)), (lki, .inl (cI, 5, .inl lFki)), (mat, .inl (cI, 5, .inl u.2.2.2.1)), (mfd, .inl (cI, 7, .inl u.2.2.2.2.1)), (mhd, .inl (cI, 7, .inl u.2.2.2.2.2.1)), (rd, .inl (cI, 5, .inl u.2.2.2.2.2.2))]) 0 0 := by
  refine begins (l := l) (y := yX2_passDaysTo) (ws := wsX2_passDaysTo) (av := [.ref h0, .int n]) (Qc := fun A => va_Qv (fun (u : Int32 × Int32 × Int32 × (Nat → Int32) × (Nat → Int32) × (Nat → Int32) × (Nat → Int32)) => md.toInt ≤ n.toInt → u.1.toInt = n.toInt) (fun u => Wd D cI cZ cM A ((fun u => [(h0, .inr (2, [.ref tl, .ref mo, .ref rd])), (mo, .inr (1, [.ref ln, .int u.1, .int mt, .int u.2.1, .int u.2.2.1, .ref mat, .ref mfd, .ref mhd])), (ln, .inr (0, [.int lpe, .int ltk, .ref lho, .ref lli, .ref lki, .ref lfd, .ref lfr, .ref lto, .ref lse, .ref lhl])), (lto, .inl (cI, 7, .inl lFto)), (lfr, .inl (cI, 7, .inl lFfr)), (lki, .inl (cI, 5, .inl lFki)), (mat, .inl (cI, 5, .inl u.2.2.2.1)), (mfd, .inl (cI, 7, .inl u.2.2.2.2.1)), (mhd, .inl (cI, 7, .inl u.2.2.2.2.2.1)), (rd, .inl (cI, 5, .inl u.2.2.2.2.2.2))]) u)) A) cX2_passDaysTo 3 none (by decide) rfl (Nat.le_of_ble_eq_true rfl) ?_
  intro p e s m args below meth c R Q A ls hBd hR hQ hA hS hK hP hD hl
  obtain ⟨hx, hb, hr, hts, hown, hlocks, hin, hml⟩ := hBd
  have hl : lv_has ls 3 [(0, .ref h0), (1, .int n)] := hl
  have iX2 : ∀ w ∈ wsX20, w ∈ wsX2_passDaysTo := fun _ h => List.mem_cons_of_mem _ (List.mem_append_left _ (List.mem_append_left _ (List.mem_append_right _ h)))
  have iX1 : ∀ w ∈ wsX10, w ∈ wsX2_passDaysTo := fun _ h => List.mem_cons_of_mem _ (List.mem_append_left _ (List.mem_append_right _ h))
  have iX0 : ∀ w ∈ wsX00, w ∈ wsX2_passDaysTo := fun _ h => List.mem_cons_of_mem _ (List.mem_append_right _ h)
  obtain ⟨h_mta, h_mtb⟩ := h_mt
  obtain ⟨h_lpea, h_lpeb⟩ := h_lpe
  obtain ⟨h_mda, h_mdb⟩ := h_md
  obtain ⟨h_na, h_nb⟩ := h_n
  refine lv_aload_n hx hb dX2_passDaysTo_0 rfl (lv_at hl 0 rfl) ?_
  refine va_get (D := D) (ci := 2) (v := .ref mo) (C := RX2) (T := TX2) (N := 3) hx hb hts iX2 hown hK hP 0 rfl rfl 1 (by decide) (hts (.fieldLink RX2 24 "PunchedTicket$Trial" "moment" "LPunchedTicket$Moment;") (List.mem_of_getElem? (i := 1) rfl)) (fun _ h9 => h9) rfl dX2_passDaysTo_1 ?_
  refine va_get (D := D) (ci := 1) (v := .int md) (C := RX1) (T := TX1) (N := 8) hx hb hts iX1 hown hK hP 1 rfl rfl 1 (by decide) (hts (.fieldLink RX2 51 "PunchedTicket$Moment" "day" "I") (List.mem_of_getElem? (i := 2) rfl)) (fun _ h9 => h9) rfl dX2_passDaysTo_4 ?_
  refine lv_istore_n (lv' := [(2, .int md), (0, .ref h0), (1, .int n)]) hx hb dX2_passDaysTo_7 rfl hl (by decide) rfl (fun ls hl => ?_)
  have LOOP_1 : ∀ (fu : Nat) (x2 : Int32) (nd : Int32) (nr : Int32) (ng : Int32) (nat : Nat → Int32) (nfd : Nat → Int32) (nhd : Nat → Int32) (nrd : Nat → Int32) (H : Heap) (locs : List Loc) (ls : Array Slot), (10 - x2.toInt).toNat < fu → (0 ≤ x2.toInt ∧ x2.toInt ≤ 10) → (0 ≤ nd.toInt ∧ nd.toInt ≤ 10) → (x2.toInt = nd.toInt) → (md.toInt ≤ n.toInt → nd.toInt ≤ n.toInt) → (md.toInt ≤ nd.toInt) → va_P D vwCl [(h0, .inr (2, [.ref tl, .ref mo, .ref rd])), (mo, .inr (1, [.ref ln, .int nd, .int mt, .int nr, .int ng, .ref mat, .ref mfd, .ref mhd])), (ln, .inr (0, [.int lpe, .int ltk, .ref lho, .ref lli, .ref lki, .ref lfd, .ref lfr, .ref lto, .ref lse, .ref lhl])), (lto, .inl (cI, 7, .inl lFto)), (lfr, .inl (cI, 7, .inl lFfr)), (lki, .inl (cI, 5, .inl lFki)), (mat, .inl (cI, 5, .inl nat)), (mfd, .inl (cI, 7, .inl nfd)), (mhd, .inl (cI, 7, .inl nhd)), (rd, .inl (cI, 5, .inl nrd))] H → va_D A [(h0, .inr (2, [.ref tl, .ref mo, .ref rd])), (mo, .inr (1, [.ref ln, .int nd, .int mt, .int nr, .int ng, .ref mat, .ref mfd, .ref mhd])), (ln, .inr (0, [.int lpe, .int ltk, .ref lho, .ref lli, .ref lki, .ref lfd, .ref lfr, .ref lto, .ref lse, .ref lhl])), (lto, .inl (cI, 7, .inl lFto)), (lfr, .inl (cI, 7, .inl lFfr)), (lki, .inl (cI, 5, .inl lFki)), (mat, .inl (cI, 5, .inl nat)), (mfd, .inl (cI, 7, .inl nfd)), (mhd, .inl (cI, 7, .inl nhd)), (rd, .inl (cI, 5, .inl nrd))] → va_S A s.heap H locs → lv_has ls 3 [(0, .ref h0), (1, .int n), (2, .int x2)] → W p l e R s m args below meth c H locs 0 0 Q (F0 m 8 ls []) := by
    intro fu
    induction fu with
    | zero => intro x2 nd nr ng nat nfd nhd nrd H locs ls hmu; exact absurd hmu (Nat.not_lt_zero _)
    | succ fu ih =>
      intro x2 nd nr ng nat nfd nhd nrd H locs ls hmu h_x2 h_nd hxd hxn hxm hP hD hS hl
      obtain ⟨h_x2a, h_x2b⟩ := h_x2
      obtain ⟨h_nda, h_ndb⟩ := h_nd
      have ih_2 := ih
      clear ih
      refine lv_iload_n hx hb dX2_passDaysTo_8 rfl (lv_at hl 2 rfl) ?_
      refine lv_iload_n hx hb dX2_passDaysTo_9 rfl (lv_at hl 1 rfl) ?_
      refine lv_icmp_ge (tgt := 31) hx hb dX2_passDaysTo_10 (by decide) (fun c_3 => ?_) (fun c_3 => ?_)
      · have tc_3 := b_le rfl rfl c_3
        exact ret_v (post := (fun (u : Int32 × Int32 × Int32 × (Nat → Int32) × (Nat → Int32) × (Nat → Int32) × (Nat → Int32)) => md.toInt ≤ n.toInt → u.1.toInt = n.toInt)) (W1 := (fun u => [(h0, .inr (2, [.ref tl, .ref mo, .ref rd])), (mo, .inr (1, [.ref ln, .int u.1, .int mt, .int u.2.1, .int u.2.2.1, .ref mat, .ref mfd, .ref mhd])), (ln, .inr (0, [.int lpe, .int ltk, .ref lho, .ref lli, .ref lki, .ref lfd, .ref lfr, .ref lto, .ref lse, .ref lhl])), (lto, .inl (cI, 7, .inl lFto)), (lfr, .inl (cI, 7, .inl lFfr)), (lki, .inl (cI, 5, .inl lFki)), (mat, .inl (cI, 5, .inl u.2.2.2.1)), (mfd, .inl (cI, 7, .inl u.2.2.2.2.1)), (mhd, .inl (cI, 7, .inl u.2.2.2.2.2.1)), (rd, .inl (cI, 5, .inl u.2.2.2.2.2.2))])) (nd, nr, ng, nat, nfd, nhd, nrd) hx hb hr hlocks hQ hK hP hD hS ⟨by decide, by decide⟩ dX2_passDaysTo_31 (show md.toInt ≤ n.toInt → nd.toInt = n.toInt by omega)
      · have tc_3 := b_nle rfl rfl c_3
        refine lv_aload_n hx hb dX2_passDaysTo_13 rfl (lv_at hl 0 rfl) ?_
        refine va_get (D := D) (ci := 2) (v := .ref mo) (C := RX2) (T := TX2) (N := 3) hx hb hts iX2 hown hK hP 0 rfl rfl 1 (by decide) (hts (.fieldLink RX2 24 "PunchedTicket$Trial" "moment" "LPunchedTicket$Moment;") (List.mem_of_getElem? (i := 1) rfl)) (fun _ h9 => h9) rfl dX2_passDaysTo_14 ?_
        refine lv_aload_n hx hb dX2_passDaysTo_17 rfl (lv_at hl 0 rfl) ?_
        refine va_get (D := D) (ci := 2) (v := .ref rd) (C := RX2) (T := TX2) (N := 3) hx hb hts iX2 hown hK hP 0 rfl rfl 2 (by decide) (hts (.fieldLink RX2 9 "PunchedTicket$Trial" "rides" "[I") (List.mem_of_getElem? (i := 3) rfl)) (fun _ h9 => h9) rfl dX2_passDaysTo_18 ?_
        refine cV_i (As := [.ref rd]) (rest := []) ⟨hx, hb, hml, hown, hts⟩ (c_X1_passDay l D cI cZ cM mo rd ln nd mt nr ng mat mfd mhd lpe ltk lho lli lki lfd lfr lto lse lhl lFto lFfr lFki nat nfd nhd nrd _ (show 0 ≤ mt.toInt ∧ mt.toInt ≤ 7 by omega) (show 0 ≤ lpe.toInt ∧ lpe.toInt ≤ 5 by omega) (show 0 ≤ nd.toInt ∧ nd.toInt ≤ 9 by omega)) (cwV 1 hts gX2_passDaysTo_X1_passDay rfl rfl rfl (by decide +kernel) ⟨by rw [hR]; decide, by rw [hR]; decide⟩) hK hP hD hS hA [1, 2, 3, 4, 5, 6, 7, 8, 9] [0] rfl rfl (by decide) (by decide) (by decide) rfl 1 rfl hl.1 rfl rfl (Nat.le_of_ble_eq_true rfl) dX2_passDaysTo_21 ⟨by rw [hR]; decide, by rw [hR]; decide⟩ (fun r_11 u_12 H locs hw hP hD hS => ?_)
        obtain ⟨md1_4, mr1_5, mg1_6, Gat_7, Gfd_8, Ghd_9, Grd_10⟩ := u_12
        have hP : va_P D vwCl [(h0, .inr (2, [.ref tl, .ref mo, .ref rd])), (mo, .inr (1, [.ref ln, .int md1_4, .int mt, .int mr1_5, .int mg1_6, .ref mat, .ref mfd, .ref mhd])), (ln, .inr (0, [.int lpe, .int ltk, .ref lho, .ref lli, .ref lki, .ref lfd, .ref lfr, .ref lto, .ref lse, .ref lhl])), (lto, .inl (cI, 7, .inl lFto)), (lfr, .inl (cI, 7, .inl lFfr)), (lki, .inl (cI, 5, .inl lFki)), (mat, .inl (cI, 5, .inl Gat_7)), (mfd, .inl (cI, 7, .inl Gfd_8)), (mhd, .inl (cI, 7, .inl Ghd_9)), (rd, .inl (cI, 5, .inl Grd_10))] H := hP.sub [0, 1, 2, 3, 4, 5, 6, 7, 8, 9] rfl
        have hD : va_D A [(h0, .inr (2, [.ref tl, .ref mo, .ref rd])), (mo, .inr (1, [.ref ln, .int md1_4, .int mt, .int mr1_5, .int mg1_6, .ref mat, .ref mfd, .ref mhd])), (ln, .inr (0, [.int lpe, .int ltk, .ref lho, .ref lli, .ref lki, .ref lfd, .ref lfr, .ref lto, .ref lse, .ref lhl])), (lto, .inl (cI, 7, .inl lFto)), (lfr, .inl (cI, 7, .inl lFfr)), (lki, .inl (cI, 5, .inl lFki)), (mat, .inl (cI, 5, .inl Gat_7)), (mfd, .inl (cI, 7, .inl Gfd_8)), (mhd, .inl (cI, 7, .inl Ghd_9)), (rd, .inl (cI, 5, .inl Grd_10))] := hD.sub [0, 1, 2, 3, 4, 5, 6, 7, 8, 9] (by decide) rfl
        refine W.widen (k := 0) (n := 0) (Nat.le_refl _) (Nat.le_refl _) ?_
        have hw : md1_4.toInt = nd.toInt + 1 ∧ (lpe.toInt = 0 → r_11.toInt = 0) := hw
        have hw_13 := hw
        refine lv_pop hx hb dX2_passDaysTo_24 rfl ?_
        obtain ⟨v_14, ev_14⟩ : ∃ z : Int32, z = x2 + 1 := ⟨_, rfl⟩
        have tv_14 : v_14.toInt = x2.toInt + 1 := by rw [ev_14]; exact ti_add (x := x2) (y := 1) (show -2147483648 ≤ x2.toInt + 1 by omega) (show x2.toInt + 1 < 2147483648 by omega)
        refine lv_iinc (v := v_14) (lv' := [(2, .int v_14), (0, .ref h0), (1, .int n)]) hx hb dX2_passDaysTo_25 hl (k := 2) rfl (by rw [ev_14]; rfl) (by decide) rfl (fun ls hl => ?_)
        refine lv_goto (tgt := 8) hx hb dX2_passDaysTo_28 (by decide) ?_
        exact ih_2 v_14 md1_4 mr1_5 mg1_6 Gat_7 Gfd_8 Ghd_9 Grd_10 _ _ _ (show (10 - v_14.toInt).toNat < fu by omega) (show 0 ≤ v_14.toInt ∧ v_14.toInt ≤ 10 by omega) (show 0 ≤ md1_4.toInt ∧ md1_4.toInt ≤ 10 by omega) (show v_14.toInt = md1_4.toInt by omega) (show md.toInt ≤ n.toInt → md1_4.toInt ≤ n.toInt by omega) (show md.toInt ≤ md1_4.toInt by omega) hP hD hS (lv_sub hl [1, 2, 0] rfl)
  exact LOOP_1 _ md md mr mg mFat mFfd mFhd Frd _ _ _ (Nat.lt_succ_self _) (show 0 ≤ md.toInt ∧ md.toInt ≤ 10 by omega) (show 0 ≤ md.toInt ∧ md.toInt ≤ 10 by omega) (show md.toInt = md.toInt by omega) (show md.toInt ≤ n.toInt → md.toInt ≤ n.toInt by omega) (show md.toInt ≤ md.toInt by omega) hP hD hS (lv_sub hl [1, 2, 0] rfl)

set_option maxHeartbeats 600000 in
set_option maxRecDepth 100000 in
theorem c_X2_gladAtEnd (l : Launch) (D : va_G) (cI cZ cM : ClassId) (h0 : Nat) (tl : Nat) (mo : Nat) (rd : Nat) (ln : Nat) (md : Int32) (mt : Int32) (mr : Int32) (mg : Int32) (mat : Nat) (mfd : Nat) (mhd : Nat) (lpe : Int32) (ltk : Int32) (lho : Nat) (lli : Nat) (lki : Nat) (lfd : Nat) (lfr : Nat) (lto : Nat) (lse : Nat) (lhl : Nat) (lFto : Nat → Int32) (lFfr : Nat → Int32) (lFki : Nat → Int32) (lFli : Nat → Int32) (mFat : Nat → Int32) (mFfd : Nat → Int32) (mFhd : Nat → Int32) (Frd : Nat → Int32) (sz : Nat) (h_mt : 0 ≤ mt.toInt ∧ mt.toInt ≤ 7) (h_lpe : 0 ≤ lpe.toInt ∧ lpe.toInt ≤ 5) (h_md : 0 ≤ md.toInt ∧ md.toInt ≤ 10) : Ci l yX2_gladAtEnd wsX2_gladAtEnd ({ frames := 4, cells := 0, slots := 0, locals := 93 } : Room) D cI cZ cM [.ref h0] [(h0, .inr (2, [.ref tl, .ref mo, .ref rd])), (mo, .inr (1, [.ref ln, .int md, .int mt, .int mr, .int mg, .ref mat, .ref mfd, .ref mhd])), (ln, .inr (0, [.int lpe, .int ltk, .ref lho, .ref lli, .ref lki, .ref lfd, .ref lfr, .ref lto, .ref lse, .ref lhl])), (lto, .inl (cI, 7, .inl lFto)), (lfr, .inl (cI, 7, .inl lFfr)), (lki, .inl (cI, 5, .inl lFki)), (lli, .inl (cI, 5, .inl lFli)), (mat, .inl (cI, 5, .inl mFat)), (mfd, .inl (cI, 7, .inl mFfd)), (mhd, .inl (cI, 7, .inl mFhd)), (rd, .inl (cI, 5, .inl Frd))] sz (fun (r : Int32) (u : Int32 × Int32 × Int32 × (Nat → Int32) × (Nat → Int32) × (Nat → Int32) × (Nat → Int32)) => 0 ≤ r.toInt ∧ r.toInt ≤ lpe.toInt) (fun u => [(h0, .inr (2, [.ref tl, .ref mo, .ref rd])), (mo, .inr (1, [.ref ln, .int u.1, .int mt, .int u.2.1, .int u.2.2.1, .ref mat, .ref mfd, .ref mhd])), (ln, .inr (0, [.int lpe, .int ltk, .ref lho, .ref lli, .ref lki, .ref lfd, .ref lfr, .ref lto, .ref lse, .ref lhl])), (lto, .inl (cI, 7, .inl lFto)), (lfr, .inl (cI, 7, .inl lFfr)), (lki, .inl (cI, 5, .inl lFki)), (lli, .inl (cI, 5, .inl lFli)), (mat, .inl (cI, 5, .inl u.2.2.2.1)), (mfd, .inl (cI, 7, .inl u.2.2.2.2.1)), (mhd, .inl (cI, 7, .inl u.2.2.2.2.2.1)), (rd, .inl (cI, 5, .inl u.2.2.2.2.2.2))]) 0 0 := by
  refine begins (l := l) (y := yX2_gladAtEnd) (ws := wsX2_gladAtEnd) (av := [.ref h0]) (Qc := fun A => va_Qi (fun (r : Int32) (u : Int32 × Int32 × Int32 × (Nat → Int32) × (Nat → Int32) × (Nat → Int32) × (Nat → Int32)) => 0 ≤ r.toInt ∧ r.toInt ≤ lpe.toInt) (fun u => Wd D cI cZ cM A ((fun u => [(h0, .inr (2, [.ref tl, .ref mo, .ref rd])), (mo, .inr (1, [.ref ln, .int u.1, .int mt, .int u.2.1, .int u.2.2.1, .ref mat, .ref mfd, .ref mhd])), (ln, .inr (0, [.int lpe, .int ltk, .ref lho, .ref lli, .ref lki, .ref lfd, .ref lfr, .ref lto, .ref lse, .ref lhl])), (lto, .inl (cI, 7, .inl lFto)), (lfr, .inl (cI, 7, .inl lFfr)), (lki, .inl (cI, 5, .inl lFki)), (lli, .inl (cI, 5, .inl lFli)), (mat, .inl (cI, 5, .inl u.2.2.2.1)), (mfd, .inl (cI, 7, .inl u.2.2.2.2.1)), (mhd, .inl (cI, 7, .inl u.2.2.2.2.2.1)), (rd, .inl (cI, 5, .inl u.2.2.2.2.2.2))]) u)) A) cX2_gladAtEnd 1 (some .int) (by decide) rfl (Nat.le_of_ble_eq_true rfl) ?_
  intro p e s m args below meth c R Q A ls hBd hR hQ hA hS hK hP hD hl
  obtain ⟨hx, hb, hr, hts, hown, hlocks, hin, hml⟩ := hBd
  have hl : lv_has ls 1 [(0, .ref h0)] := hl
  have iX2 : ∀ w ∈ wsX20, w ∈ wsX2_gladAtEnd := fun _ h => List.mem_cons_of_mem _ (List.mem_append_left _ (List.mem_append_left _ (List.mem_append_right _ h)))
  have iX1 : ∀ w ∈ wsX10, w ∈ wsX2_gladAtEnd := fun _ h => List.mem_cons_of_mem _ (List.mem_append_left _ (List.mem_append_right _ h))
  have iX0 : ∀ w ∈ wsX00, w ∈ wsX2_gladAtEnd := fun _ h => List.mem_cons_of_mem _ (List.mem_append_right _ h)
  obtain ⟨h_mta, h_mtb⟩ := h_mt
  obtain ⟨h_lpea, h_lpeb⟩ := h_lpe
  obtain ⟨h_mda, h_mdb⟩ := h_md
  refine lv_aload_n hx hb dX2_gladAtEnd_0 rfl (lv_at hl 0 rfl) ?_
  refine lv_bipush (v := 10) hx hb dX2_gladAtEnd_1 (by decide) ?_
  refine cV_v (As := [.int 10]) (rest := []) ⟨hx, hb, hml, hown, hts⟩ (c_X2_passDaysTo l D cI cZ cM h0 10 tl mo rd ln md mt mr mg mat mfd mhd lpe ltk lho lli lki lfd lfr lto lse lhl lFto lFfr lFki mFat mFfd mFhd Frd _ (show 0 ≤ mt.toInt ∧ mt.toInt ≤ 7 by omega) (show 0 ≤ lpe.toInt ∧ lpe.toInt ≤ 5 by omega) (show 0 ≤ md.toInt ∧ md.toInt ≤ 10 by omega) (by decide)) (cwV 1 hts gX2_gladAtEnd_X2_passDaysTo rfl rfl rfl (by decide +kernel) ⟨by rw [hR]; decide, by rw [hR]; decide⟩) hK hP hD hS hA [0, 1, 2, 3, 4, 5, 7, 8, 9, 10] [6] rfl rfl (by decide) (by decide) (by decide) rfl 0 rfl hl.1 rfl rfl (Nat.le_of_ble_eq_true rfl) dX2_gladAtEnd_3 ⟨by rw [hR]; decide, by rw [hR]; decide⟩ (fun u_9 H locs hw hP hD hS => ?_)
  obtain ⟨md1_1, mr1_2, mg1_3, Gat_4, Gfd_5, Ghd_6, Grd_7⟩ := u_9
  have hP : va_P D vwCl [(h0, .inr (2, [.ref tl, .ref mo, .ref rd])), (mo, .inr (1, [.ref ln, .int md1_1, .int mt, .int mr1_2, .int mg1_3, .ref mat, .ref mfd, .ref mhd])), (ln, .inr (0, [.int lpe, .int ltk, .ref lho, .ref lli, .ref lki, .ref lfd, .ref lfr, .ref lto, .ref lse, .ref lhl])), (lto, .inl (cI, 7, .inl lFto)), (lfr, .inl (cI, 7, .inl lFfr)), (lki, .inl (cI, 5, .inl lFki)), (lli, .inl (cI, 5, .inl lFli)), (mat, .inl (cI, 5, .inl Gat_4)), (mfd, .inl (cI, 7, .inl Gfd_5)), (mhd, .inl (cI, 7, .inl Ghd_6)), (rd, .inl (cI, 5, .inl Grd_7))] H := hP.sub [1, 2, 3, 4, 5, 6, 0, 7, 8, 9, 10] rfl
  have hD : va_D A [(h0, .inr (2, [.ref tl, .ref mo, .ref rd])), (mo, .inr (1, [.ref ln, .int md1_1, .int mt, .int mr1_2, .int mg1_3, .ref mat, .ref mfd, .ref mhd])), (ln, .inr (0, [.int lpe, .int ltk, .ref lho, .ref lli, .ref lki, .ref lfd, .ref lfr, .ref lto, .ref lse, .ref lhl])), (lto, .inl (cI, 7, .inl lFto)), (lfr, .inl (cI, 7, .inl lFfr)), (lki, .inl (cI, 5, .inl lFki)), (lli, .inl (cI, 5, .inl lFli)), (mat, .inl (cI, 5, .inl Gat_4)), (mfd, .inl (cI, 7, .inl Gfd_5)), (mhd, .inl (cI, 7, .inl Ghd_6)), (rd, .inl (cI, 5, .inl Grd_7))] := hD.sub [1, 2, 3, 4, 5, 6, 0, 7, 8, 9, 10] (by decide) rfl
  refine W.widen (k := 0) (n := 0) (Nat.le_refl _) (Nat.le_refl _) ?_
  have hw : md.toInt ≤ (10 : Int) → md1_1.toInt = (10 : Int) := hw
  have hw_10 := hw
  refine lv_aload_n hx hb dX2_gladAtEnd_6 rfl (lv_at hl 0 rfl) ?_
  refine va_get (D := D) (ci := 2) (v := .ref mo) (C := RX2) (T := TX2) (N := 3) hx hb hts iX2 hown hK hP 0 rfl rfl 1 (by decide) (hts (.fieldLink RX2 24 "PunchedTicket$Trial" "moment" "LPunchedTicket$Moment;") (List.mem_of_getElem? (i := 1) rfl)) (fun _ h9 => h9) rfl dX2_gladAtEnd_7 ?_
  refine cV_i (As := []) (rest := []) ⟨hx, hb, hml, hown, hts⟩ (c_X1_gladNow l D cI cZ cM mo ln md1_1 mt mr1_2 mg1_3 mat mfd mhd lpe ltk lho lli lki lfd lfr lto lse lhl lFli Gat_4 _ (show 0 ≤ lpe.toInt ∧ lpe.toInt ≤ 5 by omega)) (cwV 0 hts gX2_gladAtEnd_X1_gladNow rfl rfl rfl (by decide +kernel) ⟨by rw [hR]; decide, by rw [hR]; decide⟩) hK hP hD hS hA [1, 2, 6, 7] [0, 3, 4, 5, 8, 9, 10] rfl rfl (by decide) (by decide) (by decide) rfl 1 rfl hl.1 rfl rfl (Nat.le_of_ble_eq_true rfl) dX2_gladAtEnd_10 ⟨by rw [hR]; decide, by rw [hR]; decide⟩ (fun r_11 u_12 H locs hw hP hD hS => ?_)
  have hP : va_P D vwCl [(h0, .inr (2, [.ref tl, .ref mo, .ref rd])), (mo, .inr (1, [.ref ln, .int md1_1, .int mt, .int mr1_2, .int mg1_3, .ref mat, .ref mfd, .ref mhd])), (ln, .inr (0, [.int lpe, .int ltk, .ref lho, .ref lli, .ref lki, .ref lfd, .ref lfr, .ref lto, .ref lse, .ref lhl])), (lto, .inl (cI, 7, .inl lFto)), (lfr, .inl (cI, 7, .inl lFfr)), (lki, .inl (cI, 5, .inl lFki)), (lli, .inl (cI, 5, .inl lFli)), (mat, .inl (cI, 5, .inl Gat_4)), (mfd, .inl (cI, 7, .inl Gfd_5)), (mhd, .inl (cI, 7, .inl Ghd_6)), (rd, .inl (cI, 5, .inl Grd_7))] H := hP.sub [0, 7, 8, 1, 2, 3, 9, 10, 4, 5, 6] rfl
  have hD : va_D A [(h0, .inr (2, [.ref tl, .ref mo, .ref rd])), (mo, .inr (1, [.ref ln, .int md1_1, .int mt, .int mr1_2, .int mg1_3, .ref mat, .ref mfd, .ref mhd])), (ln, .inr (0, [.int lpe, .int ltk, .ref lho, .ref lli, .ref lki, .ref lfd, .ref lfr, .ref lto, .ref lse, .ref lhl])), (lto, .inl (cI, 7, .inl lFto)), (lfr, .inl (cI, 7, .inl lFfr)), (lki, .inl (cI, 5, .inl lFki)), (lli, .inl (cI, 5, .inl lFli)), (mat, .inl (cI, 5, .inl Gat_4)), (mfd, .inl (cI, 7, .inl Gfd_5)), (mhd, .inl (cI, 7, .inl Ghd_6)), (rd, .inl (cI, 5, .inl Grd_7))] := hD.sub [0, 7, 8, 1, 2, 3, 9, 10, 4, 5, 6] (by decide) rfl
  refine W.widen (k := 0) (n := 0) (Nat.le_refl _) (Nat.le_refl _) ?_
  have hw : 0 ≤ r_11.toInt ∧ r_11.toInt ≤ lpe.toInt := hw
  have hw_13 := hw
  obtain ⟨hw_13a, hw_13b⟩ := hw_13
  exact ret_i (post := (fun (r : Int32) (u : Int32 × Int32 × Int32 × (Nat → Int32) × (Nat → Int32) × (Nat → Int32) × (Nat → Int32)) => 0 ≤ r.toInt ∧ r.toInt ≤ lpe.toInt)) (W1 := (fun u => [(h0, .inr (2, [.ref tl, .ref mo, .ref rd])), (mo, .inr (1, [.ref ln, .int u.1, .int mt, .int u.2.1, .int u.2.2.1, .ref mat, .ref mfd, .ref mhd])), (ln, .inr (0, [.int lpe, .int ltk, .ref lho, .ref lli, .ref lki, .ref lfd, .ref lfr, .ref lto, .ref lse, .ref lhl])), (lto, .inl (cI, 7, .inl lFto)), (lfr, .inl (cI, 7, .inl lFfr)), (lki, .inl (cI, 5, .inl lFki)), (lli, .inl (cI, 5, .inl lFli)), (mat, .inl (cI, 5, .inl u.2.2.2.1)), (mfd, .inl (cI, 7, .inl u.2.2.2.2.1)), (mhd, .inl (cI, 7, .inl u.2.2.2.2.2.1)), (rd, .inl (cI, 5, .inl u.2.2.2.2.2.2))])) (md1_1, mr1_2, mg1_3, Gat_4, Gfd_5, Ghd_6, Grd_7) hx hb hr hlocks rfl hQ hK hP hD hS ⟨by decide, by decide⟩ dX2_gladAtEnd_13 (show 0 ≤ r_11.toInt ∧ r_11.toInt ≤ lpe.toInt by omega)

set_option maxHeartbeats 600000 in
set_option maxRecDepth 100000 in
theorem c_X2_barredSeats0 (l : Launch) (D : va_G) (cI cZ cM : ClassId) (h0 : Nat) (n : Int32) (tl : Nat) (mo : Nat) (rd : Nat) (ltk : Int32) (lho : Nat) (lli : Nat) (lki : Nat) (lfd : Nat) (lfr : Nat) (lto : Nat) (lse : Nat) (lhl : Nat) (sz : Nat)  : Ci l yX2_barredSeats wsX2_barredSeats ({ frames := 0, cells := 0, slots := 0, locals := 0 } : Room) D cI cZ cM [.ref h0, .int n] [(h0, .inr (2, [.ref tl, .ref mo, .ref rd])), (tl, .inr (0, [.int 0, .int ltk, .ref lho, .ref lli, .ref lki, .ref lfd, .ref lfr, .ref lto, .ref lse, .ref lhl]))] sz (fun (r : Int32) (u : Unit) => r.toInt = 0) (fun u => [(h0, .inr (2, [.ref tl, .ref mo, .ref rd])), (tl, .inr (0, [.int 0, .int ltk, .ref lho, .ref lli, .ref lki, .ref lfd, .ref lfr, .ref lto, .ref lse, .ref lhl]))]) 0 0 := by
  refine begins (l := l) (y := yX2_barredSeats) (ws := wsX2_barredSeats) (av := [.ref h0, .int n]) (Qc := fun A => va_Qi (fun (r : Int32) (u : Unit) => r.toInt = 0) (fun u => Wd D cI cZ cM A ((fun u => [(h0, .inr (2, [.ref tl, .ref mo, .ref rd])), (tl, .inr (0, [.int 0, .int ltk, .ref lho, .ref lli, .ref lki, .ref lfd, .ref lfr, .ref lto, .ref lse, .ref lhl]))]) u)) A) cX2_barredSeats 5 (some .int) (by decide) rfl (Nat.le_of_ble_eq_true rfl) ?_
  intro p e s m args below meth c R Q A ls hBd hR hQ hA hS hK hP hD hl
  obtain ⟨hx, hb, hr, hts, hown, hlocks, hin, hml⟩ := hBd
  have hl : lv_has ls 5 [(0, .ref h0), (1, .int n)] := hl
  have iX2 : ∀ w ∈ wsX20, w ∈ wsX2_barredSeats := fun _ h => List.mem_cons_of_mem _ (List.mem_append_left _ (List.mem_append_left _ (List.mem_append_right _ h)))
  have iX0 : ∀ w ∈ wsX00, w ∈ wsX2_barredSeats := fun _ h => List.mem_cons_of_mem _ (List.mem_append_left _ (List.mem_append_right _ h))
  have iX1 : ∀ w ∈ wsX10, w ∈ wsX2_barredSeats := fun _ h => List.mem_cons_of_mem _ (List.mem_append_right _ h)
  refine lv_iconst (v := 0) hx hb dX2_barredSeats_0 (by decide) ?_
  refine lv_istore_n (lv' := [(2, .int 0), (0, .ref h0), (1, .int n)]) hx hb dX2_barredSeats_1 rfl hl (by decide) rfl (fun ls hl => ?_)
  refine lv_iconst (v := 0) hx hb dX2_barredSeats_2 (by decide) ?_
  refine lv_istore_n (lv' := [(3, .int 0), (2, .int 0), (0, .ref h0), (1, .int n)]) hx hb dX2_barredSeats_3 rfl hl (by decide) rfl (fun ls hl => ?_)
  refine lv_iload_n hx hb dX2_barredSeats_4 rfl (lv_at hl 0 rfl) ?_
  refine lv_aload_n hx hb dX2_barredSeats_5 rfl (lv_at hl 2 rfl) ?_
  refine va_get (D := D) (ci := 2) (v := .ref tl) (C := RX2) (T := TX2) (N := 3) hx hb hts iX2 hown hK hP 0 rfl rfl 0 (by decide) (hts (.fieldLink RX2 15 "PunchedTicket$Trial" "line" "LPunchedTicket$Line;") (List.mem_of_getElem? (i := 1) rfl)) (fun _ h9 => h9) rfl dX2_barredSeats_6 ?_
  refine va_get (D := D) (ci := 0) (v := .int 0) (C := RX0) (T := TX0) (N := 10) hx hb hts iX0 hown hK hP 1 rfl rfl 0 (by decide) (hts (.fieldLink RX2 98 "PunchedTicket$Line" "people" "I") (List.mem_of_getElem? (i := 2) rfl)) (fun _ h9 => h9) rfl dX2_barredSeats_9 ?_
  refine lv_icmp_ge (tgt := 75) hx hb dX2_barredSeats_12 (by decide) (fun c_1 => ?_) (fun c_1 => ?_)
  · have tc_1 := b_le (show (0 : Int32).toInt = 0 by decide) (show (0 : Int32).toInt = 0 by decide) c_1
    refine lv_iload_n hx hb dX2_barredSeats_75 rfl (lv_at hl 1 rfl) ?_
    exact ret_i (post := (fun (r : Int32) (u : Unit) => r.toInt = 0)) (W1 := (fun u => [(h0, .inr (2, [.ref tl, .ref mo, .ref rd])), (tl, .inr (0, [.int 0, .int ltk, .ref lho, .ref lli, .ref lki, .ref lfd, .ref lfr, .ref lto, .ref lse, .ref lhl]))])) () hx hb hr hlocks rfl hQ hK hP hD hS ⟨by decide, by decide⟩ dX2_barredSeats_76 (show (0 : Int) = 0 by omega)
  · have tc_1 := b_nle (show (0 : Int32).toInt = 0 by decide) (show (0 : Int32).toInt = 0 by decide) c_1
    exfalso; omega

set_option maxHeartbeats 600000 in
set_option maxRecDepth 100000 in
theorem c_X2_firstDouble0 (l : Launch) (D : va_G) (cI cZ cM : ClassId) (h0 : Nat) (ln : Nat) (mo : Nat) (rd : Nat) (md : Int32) (mt : Int32) (mr : Int32) (mg : Int32) (mat : Nat) (mfd : Nat) (mhd : Nat) (ltk : Int32) (lho : Nat) (lli : Nat) (lki : Nat) (lfd : Nat) (lfr : Nat) (lto : Nat) (lse : Nat) (lhl : Nat) (lFto : Nat → Int32) (lFfr : Nat → Int32) (lFki : Nat → Int32) (mFat : Nat → Int32) (mFfd : Nat → Int32) (mFhd : Nat → Int32) (Frd : Nat → Int32) (sz : Nat) (h_mt : 0 ≤ mt.toInt ∧ mt.toInt ≤ 7) (h_md : 0 ≤ md.toInt ∧ md.toInt ≤ 10) : Ci l yX2_firstDouble wsX2_firstDouble ({ frames := 3, cells := 0, slots := 0, locals := 71 } : Room) D cI cZ cM [.ref h0] [(h0, .inr (2, [.ref ln, .ref mo, .ref rd])), (mo, .inr (1, [.ref ln, .int md, .int mt, .int mr, .int mg, .ref mat, .ref mfd, .ref mhd])), (ln, .inr (0, [.int 0, .int ltk, .ref lho, .ref lli, .ref lki, .ref lfd, .ref lfr, .ref lto, .ref lse, .ref lhl])), (lto, .inl (cI, 7, .inl lFto)), (lfr, .inl (cI, 7, .inl lFfr)), (lki, .inl (cI, 5, .inl lFki)), (mat, .inl (cI, 5, .inl mFat)), (mfd, .inl (cI, 7, .inl mFfd)), (mhd, .inl (cI, 7, .inl mFhd)), (rd, .inl (cI, 5, .inl Frd))] sz (fun (r : Int32) (u : Int32 × Int32 × Int32 × (Nat → Int32) × (Nat → Int32) × (Nat → Int32) × (Nat → Int32)) => r.toInt = -9) (fun u => [(h0, .inr (2, [.ref ln, .ref mo, .ref rd])), (mo, .inr (1, [.ref ln, .int u.1, .int mt, .int u.2.1, .int u.2.2.1, .ref mat, .ref mfd, .ref mhd])), (ln, .inr (0, [.int 0, .int ltk, .ref lho, .ref lli, .ref lki, .ref lfd, .ref lfr, .ref lto, .ref lse, .ref lhl])), (lto, .inl (cI, 7, .inl lFto)), (lfr, .inl (cI, 7, .inl lFfr)), (lki, .inl (cI, 5, .inl lFki)), (mat, .inl (cI, 5, .inl u.2.2.2.1)), (mfd, .inl (cI, 7, .inl u.2.2.2.2.1)), (mhd, .inl (cI, 7, .inl u.2.2.2.2.2.1)), (rd, .inl (cI, 5, .inl u.2.2.2.2.2.2))]) 0 0 := by
  refine begins (l := l) (y := yX2_firstDouble) (ws := wsX2_firstDouble) (av := [.ref h0]) (Qc := fun A => va_Qi (fun (r : Int32) (u : Int32 × Int32 × Int32 × (Nat → Int32) × (Nat → Int32) × (Nat → Int32) × (Nat → Int32)) => r.toInt = -9) (fun u => Wd D cI cZ cM A ((fun u => [(h0, .inr (2, [.ref ln, .ref mo, .ref rd])), (mo, .inr (1, [.ref ln, .int u.1, .int mt, .int u.2.1, .int u.2.2.1, .ref mat, .ref mfd, .ref mhd])), (ln, .inr (0, [.int 0, .int ltk, .ref lho, .ref lli, .ref lki, .ref lfd, .ref lfr, .ref lto, .ref lse, .ref lhl])), (lto, .inl (cI, 7, .inl lFto)), (lfr, .inl (cI, 7, .inl lFfr)), (lki, .inl (cI, 5, .inl lFki)), (mat, .inl (cI, 5, .inl u.2.2.2.1)), (mfd, .inl (cI, 7, .inl u.2.2.2.2.1)), (mhd, .inl (cI, 7, .inl u.2.2.2.2.2.1)), (rd, .inl (cI, 5, .inl u.2.2.2.2.2.2))]) u)) A) cX2_firstDouble 2 (some .int) (by decide) rfl (Nat.le_of_ble_eq_true rfl) ?_
  intro p e s m args below meth c R Q A ls hBd hR hQ hA hS hK hP hD hl
  obtain ⟨hx, hb, hr, hts, hown, hlocks, hin, hml⟩ := hBd
  have hl : lv_has ls 2 [(0, .ref h0)] := hl
  have iX2 : ∀ w ∈ wsX20, w ∈ wsX2_firstDouble := fun _ h => List.mem_cons_of_mem _ (List.mem_append_left _ (List.mem_append_left _ (List.mem_append_right _ h)))
  have iX1 : ∀ w ∈ wsX10, w ∈ wsX2_firstDouble := fun _ h => List.mem_cons_of_mem _ (List.mem_append_left _ (List.mem_append_right _ h))
  have iX0 : ∀ w ∈ wsX00, w ∈ wsX2_firstDouble := fun _ h => List.mem_cons_of_mem _ (List.mem_append_right _ h)
  obtain ⟨h_mta, h_mtb⟩ := h_mt
  obtain ⟨h_mda, h_mdb⟩ := h_md
  refine lv_aload_n hx hb dX2_firstDouble_0 rfl (lv_at hl 0 rfl) ?_
  refine va_get (D := D) (ci := 2) (v := .ref mo) (C := RX2) (T := TX2) (N := 3) hx hb hts iX2 hown hK hP 0 rfl rfl 1 (by decide) (hts (.fieldLink RX2 24 "PunchedTicket$Trial" "moment" "LPunchedTicket$Moment;") (List.mem_of_getElem? (i := 1) rfl)) (fun _ h9 => h9) rfl dX2_firstDouble_1 ?_
  refine va_get (D := D) (ci := 1) (v := .int md) (C := RX1) (T := TX1) (N := 8) hx hb hts iX1 hown hK hP 1 rfl rfl 1 (by decide) (hts (.fieldLink RX2 51 "PunchedTicket$Moment" "day" "I") (List.mem_of_getElem? (i := 2) rfl)) (fun _ h9 => h9) rfl dX2_firstDouble_4 ?_
  refine lv_istore_n (lv' := [(1, .int md), (0, .ref h0)]) hx hb dX2_firstDouble_7 rfl hl (by decide) rfl (fun ls hl => ?_)
  have LOOP_1 : ∀ (fu : Nat) (x1 : Int32) (nd : Int32) (nr : Int32) (ng : Int32) (nat : Nat → Int32) (nfd : Nat → Int32) (nhd : Nat → Int32) (nrd : Nat → Int32) (H : Heap) (locs : List Loc) (ls : Array Slot), (10 - x1.toInt).toNat < fu → (0 ≤ x1.toInt ∧ x1.toInt ≤ 10) → (0 ≤ nd.toInt ∧ nd.toInt ≤ 10) → (x1.toInt = nd.toInt) → va_P D vwCl [(h0, .inr (2, [.ref ln, .ref mo, .ref rd])), (mo, .inr (1, [.ref ln, .int nd, .int mt, .int nr, .int ng, .ref mat, .ref mfd, .ref mhd])), (ln, .inr (0, [.int 0, .int ltk, .ref lho, .ref lli, .ref lki, .ref lfd, .ref lfr, .ref lto, .ref lse, .ref lhl])), (lto, .inl (cI, 7, .inl lFto)), (lfr, .inl (cI, 7, .inl lFfr)), (lki, .inl (cI, 5, .inl lFki)), (mat, .inl (cI, 5, .inl nat)), (mfd, .inl (cI, 7, .inl nfd)), (mhd, .inl (cI, 7, .inl nhd)), (rd, .inl (cI, 5, .inl nrd))] H → va_D A [(h0, .inr (2, [.ref ln, .ref mo, .ref rd])), (mo, .inr (1, [.ref ln, .int nd, .int mt, .int nr, .int ng, .ref mat, .ref mfd, .ref mhd])), (ln, .inr (0, [.int 0, .int ltk, .ref lho, .ref lli, .ref lki, .ref lfd, .ref lfr, .ref lto, .ref lse, .ref lhl])), (lto, .inl (cI, 7, .inl lFto)), (lfr, .inl (cI, 7, .inl lFfr)), (lki, .inl (cI, 5, .inl lFki)), (mat, .inl (cI, 5, .inl nat)), (mfd, .inl (cI, 7, .inl nfd)), (mhd, .inl (cI, 7, .inl nhd)), (rd, .inl (cI, 5, .inl nrd))] → va_S A s.heap H locs → lv_has ls 2 [(0, .ref h0), (1, .int x1)] → W p l e R s m args below meth c H locs 0 0 Q (F0 m 8 ls []) := by
    intro fu
    induction fu with
    | zero => intro x1 nd nr ng nat nfd nhd nrd H locs ls hmu; exact absurd hmu (Nat.not_lt_zero _)
    | succ fu ih =>
      intro x1 nd nr ng nat nfd nhd nrd H locs ls hmu h_x1 h_nd hxd hP hD hS hl
      obtain ⟨h_x1a, h_x1b⟩ := h_x1
      obtain ⟨h_nda, h_ndb⟩ := h_nd
      have ih_2 := ih
      clear ih
      refine lv_iload_n hx hb dX2_firstDouble_8 rfl (lv_at hl 1 rfl) ?_
      refine lv_bipush (v := 10) hx hb dX2_firstDouble_9 (by decide) ?_
      refine lv_icmp_ge (tgt := 43) hx hb dX2_firstDouble_11 (by decide) (fun c_3 => ?_) (fun c_3 => ?_)
      · have tc_3 := b_le (show (10 : Int32).toInt = 10 by decide) rfl c_3
        refine lv_bipush (v := (-9)) hx hb dX2_firstDouble_43 (by decide) ?_
        exact ret_i (post := (fun (r : Int32) (u : Int32 × Int32 × Int32 × (Nat → Int32) × (Nat → Int32) × (Nat → Int32) × (Nat → Int32)) => r.toInt = -9)) (W1 := (fun u => [(h0, .inr (2, [.ref ln, .ref mo, .ref rd])), (mo, .inr (1, [.ref ln, .int u.1, .int mt, .int u.2.1, .int u.2.2.1, .ref mat, .ref mfd, .ref mhd])), (ln, .inr (0, [.int 0, .int ltk, .ref lho, .ref lli, .ref lki, .ref lfd, .ref lfr, .ref lto, .ref lse, .ref lhl])), (lto, .inl (cI, 7, .inl lFto)), (lfr, .inl (cI, 7, .inl lFfr)), (lki, .inl (cI, 5, .inl lFki)), (mat, .inl (cI, 5, .inl u.2.2.2.1)), (mfd, .inl (cI, 7, .inl u.2.2.2.2.1)), (mhd, .inl (cI, 7, .inl u.2.2.2.2.2.1)), (rd, .inl (cI, 5, .inl u.2.2.2.2.2.2))])) (nd, nr, ng, nat, nfd, nhd, nrd) hx hb hr hlocks rfl hQ hK hP hD hS ⟨by decide, by decide⟩ dX2_firstDouble_45 (show (-9 : Int) = -9 by omega)
      · have tc_3 := b_nle (show (10 : Int32).toInt = 10 by decide) rfl c_3
        refine lv_aload_n hx hb dX2_firstDouble_14 rfl (lv_at hl 0 rfl) ?_
        refine va_get (D := D) (ci := 2) (v := .ref mo) (C := RX2) (T := TX2) (N := 3) hx hb hts iX2 hown hK hP 0 rfl rfl 1 (by decide) (hts (.fieldLink RX2 24 "PunchedTicket$Trial" "moment" "LPunchedTicket$Moment;") (List.mem_of_getElem? (i := 1) rfl)) (fun _ h9 => h9) rfl dX2_firstDouble_15 ?_
        refine lv_aload_n hx hb dX2_firstDouble_18 rfl (lv_at hl 0 rfl) ?_
        refine va_get (D := D) (ci := 2) (v := .ref rd) (C := RX2) (T := TX2) (N := 3) hx hb hts iX2 hown hK hP 0 rfl rfl 2 (by decide) (hts (.fieldLink RX2 9 "PunchedTicket$Trial" "rides" "[I") (List.mem_of_getElem? (i := 3) rfl)) (fun _ h9 => h9) rfl dX2_firstDouble_19 ?_
        refine cV_i (As := [.ref rd]) (rest := []) ⟨hx, hb, hml, hown, hts⟩ (c_X1_passDay l D cI cZ cM mo rd ln nd mt nr ng mat mfd mhd 0 ltk lho lli lki lfd lfr lto lse lhl lFto lFfr lFki nat nfd nhd nrd _ (show 0 ≤ mt.toInt ∧ mt.toInt ≤ 7 by omega) (by decide) (show 0 ≤ nd.toInt ∧ nd.toInt ≤ 9 by omega)) (cwV 1 hts gX2_firstDouble_X1_passDay rfl rfl rfl (by decide +kernel) ⟨by rw [hR]; decide, by rw [hR]; decide⟩) hK hP hD hS hA [1, 2, 3, 4, 5, 6, 7, 8, 9] [0] rfl rfl (by decide) (by decide) (by decide) rfl 1 rfl hl.1 rfl rfl (Nat.le_of_ble_eq_true rfl) dX2_firstDouble_22 ⟨by rw [hR]; decide, by rw [hR]; decide⟩ (fun r_11 u_12 H locs hw hP hD hS => ?_)
        obtain ⟨md1_4, mr1_5, mg1_6, Gat_7, Gfd_8, Ghd_9, Grd_10⟩ := u_12
        have hP : va_P D vwCl [(h0, .inr (2, [.ref ln, .ref mo, .ref rd])), (mo, .inr (1, [.ref ln, .int md1_4, .int mt, .int mr1_5, .int mg1_6, .ref mat, .ref mfd, .ref mhd])), (ln, .inr (0, [.int 0, .int ltk, .ref lho, .ref lli, .ref lki, .ref lfd, .ref lfr, .ref lto, .ref lse, .ref lhl])), (lto, .inl (cI, 7, .inl lFto)), (lfr, .inl (cI, 7, .inl lFfr)), (lki, .inl (cI, 5, .inl lFki)), (mat, .inl (cI, 5, .inl Gat_7)), (mfd, .inl (cI, 7, .inl Gfd_8)), (mhd, .inl (cI, 7, .inl Ghd_9)), (rd, .inl (cI, 5, .inl Grd_10))] H := hP.sub [0, 1, 2, 3, 4, 5, 6, 7, 8, 9] rfl
        have hD : va_D A [(h0, .inr (2, [.ref ln, .ref mo, .ref rd])), (mo, .inr (1, [.ref ln, .int md1_4, .int mt, .int mr1_5, .int mg1_6, .ref mat, .ref mfd, .ref mhd])), (ln, .inr (0, [.int 0, .int ltk, .ref lho, .ref lli, .ref lki, .ref lfd, .ref lfr, .ref lto, .ref lse, .ref lhl])), (lto, .inl (cI, 7, .inl lFto)), (lfr, .inl (cI, 7, .inl lFfr)), (lki, .inl (cI, 5, .inl lFki)), (mat, .inl (cI, 5, .inl Gat_7)), (mfd, .inl (cI, 7, .inl Gfd_8)), (mhd, .inl (cI, 7, .inl Ghd_9)), (rd, .inl (cI, 5, .inl Grd_10))] := hD.sub [0, 1, 2, 3, 4, 5, 6, 7, 8, 9] (by decide) rfl
        refine W.widen (k := 0) (n := 0) (Nat.le_refl _) (Nat.le_refl _) ?_
        have hw : md1_4.toInt = nd.toInt + 1 ∧ ((0 : Int) = 0 → r_11.toInt = 0) := hw
        have hw_13 := hw
        refine lv_pop hx hb dX2_firstDouble_25 rfl ?_
        refine lv_aload_n hx hb dX2_firstDouble_26 rfl (lv_at hl 0 rfl) ?_
        refine lv_bipush (v := (-9)) hx hb dX2_firstDouble_27 (by decide) ?_
        refine cV_i (As := [.int (-9)]) (rest := []) ⟨hx, hb, hml, hown, hts⟩ (c_X2_barredSeats0 l D cI cZ cM h0 (-9) ln mo rd ltk lho lli lki lfd lfr lto lse lhl _ ) (cwV 1 hts gX2_firstDouble_X2_barredSeats rfl rfl rfl (by decide +kernel) ⟨by rw [hR]; decide, by rw [hR]; decide⟩) hK hP hD hS hA [0, 2] [1, 3, 4, 5, 6, 7, 8, 9] rfl rfl (by decide) (by decide) (by decide) rfl 0 rfl hl.1 rfl rfl (Nat.le_of_ble_eq_true rfl) dX2_firstDouble_29 ⟨by rw [hR]; decide, by rw [hR]; decide⟩ (fun r_14 u_15 H locs hw hP hD hS => ?_)
        have hP : va_P D vwCl [(h0, .inr (2, [.ref ln, .ref mo, .ref rd])), (mo, .inr (1, [.ref ln, .int md1_4, .int mt, .int mr1_5, .int mg1_6, .ref mat, .ref mfd, .ref mhd])), (ln, .inr (0, [.int 0, .int ltk, .ref lho, .ref lli, .ref lki, .ref lfd, .ref lfr, .ref lto, .ref lse, .ref lhl])), (lto, .inl (cI, 7, .inl lFto)), (lfr, .inl (cI, 7, .inl lFfr)), (lki, .inl (cI, 5, .inl lFki)), (mat, .inl (cI, 5, .inl Gat_7)), (mfd, .inl (cI, 7, .inl Gfd_8)), (mhd, .inl (cI, 7, .inl Ghd_9)), (rd, .inl (cI, 5, .inl Grd_10))] H := hP.sub [8, 0, 9, 1, 2, 3, 4, 5, 6, 7] rfl
        have hD : va_D A [(h0, .inr (2, [.ref ln, .ref mo, .ref rd])), (mo, .inr (1, [.ref ln, .int md1_4, .int mt, .int mr1_5, .int mg1_6, .ref mat, .ref mfd, .ref mhd])), (ln, .inr (0, [.int 0, .int ltk, .ref lho, .ref lli, .ref lki, .ref lfd, .ref lfr, .ref lto, .ref lse, .ref lhl])), (lto, .inl (cI, 7, .inl lFto)), (lfr, .inl (cI, 7, .inl lFfr)), (lki, .inl (cI, 5, .inl lFki)), (mat, .inl (cI, 5, .inl Gat_7)), (mfd, .inl (cI, 7, .inl Gfd_8)), (mhd, .inl (cI, 7, .inl Ghd_9)), (rd, .inl (cI, 5, .inl Grd_10))] := hD.sub [8, 0, 9, 1, 2, 3, 4, 5, 6, 7] (by decide) rfl
        refine W.widen (k := 0) (n := 0) (Nat.le_refl _) (Nat.le_refl _) ?_
        have hw : r_14.toInt = 0 := hw
        have hw_16 := hw
        refine lv_if_eq (tgt := 37) hx hb dX2_firstDouble_32 (by decide) (fun c_17 => ?_) (fun c_17 => ?_)
        · have tc_17 := b_eq rfl (show (0 : Int32).toInt = 0 by decide) c_17
          obtain ⟨v_18, ev_18⟩ : ∃ z : Int32, z = x1 + 1 := ⟨_, rfl⟩
          have tv_18 : v_18.toInt = x1.toInt + 1 := by rw [ev_18]; exact ti_add (x := x1) (y := 1) (show -2147483648 ≤ x1.toInt + 1 by omega) (show x1.toInt + 1 < 2147483648 by omega)
          refine lv_iinc (v := v_18) (lv' := [(1, .int v_18), (0, .ref h0)]) hx hb dX2_firstDouble_37 hl (k := 1) rfl (by rw [ev_18]; rfl) (by decide) rfl (fun ls hl => ?_)
          refine lv_goto (tgt := 8) hx hb dX2_firstDouble_40 (by decide) ?_
          exact ih_2 v_18 md1_4 mr1_5 mg1_6 Gat_7 Gfd_8 Ghd_9 Grd_10 _ _ _ (show (10 - v_18.toInt).toNat < fu by omega) (show 0 ≤ v_18.toInt ∧ v_18.toInt ≤ 10 by omega) (show 0 ≤ md1_4.toInt ∧ md1_4.toInt ≤ 10 by omega) (show v_18.toInt = md1_4.toInt by omega) hP hD hS (lv_sub hl [1, 0] rfl)
        · have tc_17 := b_ne rfl (show (0 : Int32).toInt = 0 by decide) c_17
          exfalso; omega
  exact LOOP_1 _ md md mr mg mFat mFfd mFhd Frd _ _ _ (Nat.lt_succ_self _) (show 0 ≤ md.toInt ∧ md.toInt ≤ 10 by omega) (show 0 ≤ md.toInt ∧ md.toInt ≤ 10 by omega) (show md.toInt = md.toInt by omega) hP hD hS (lv_sub hl [1, 0] rfl)
end
section
theorem dX0_read_0 : decode cX0_read 0 = .ok (.aload_n 0, 1) := by decide +kernel
theorem dX0_read_1 : decode cX0_read 1 = .ok (.iconst 0, 1) := by decide +kernel
theorem dX0_read_2 : decode cX0_read 2 = .ok (.putfield 9, 3) := by decide +kernel
theorem dX0_read_5 : decode cX0_read 5 = .ok (.aload_n 0, 1) := by decide +kernel
theorem dX0_read_6 : decode cX0_read 6 = .ok (.iconst 0, 1) := by decide +kernel
theorem dX0_read_7 : decode cX0_read 7 = .ok (.putfield 15, 3) := by decide +kernel
theorem dX0_read_10 : decode cX0_read 10 = .ok (.iload_n 2, 1) := by decide +kernel
theorem dX0_read_11 : decode cX0_read 11 = .ok (.iconst 1, 1) := by decide +kernel
theorem dX0_read_12 : decode cX0_read 12 = .ok (.if_icmp .lt 17, 3) := by decide +kernel
theorem dX0_read_29 : decode cX0_read 29 = .ok (.iconst 0, 1) := by decide +kernel
theorem dX0_read_30 : decode cX0_read 30 = .ok (.ireturn, 1) := by decide +kernel
theorem dX3_write_0 : decode cX3_write 0 = .ok (.iload_n 1, 1) := by decide +kernel
theorem dX3_write_1 : decode cX3_write 1 = .ok (.ifCond .lt 10, 3) := by decide +kernel
theorem dX3_write_4 : decode cX3_write 4 = .ok (.iload_n 1, 1) := by decide +kernel
theorem dX3_write_5 : decode cX3_write 5 = .ok (.sipush 255, 3) := by decide +kernel
theorem dX3_write_8 : decode cX3_write 8 = .ok (.if_icmp .le 6, 3) := by decide +kernel
theorem dX3_write_11 : decode cX3_write 11 = .ok (.bipush (-2), 2) := by decide +kernel
theorem dX3_write_13 : decode cX3_write 13 = .ok (.ireturn, 1) := by decide +kernel
theorem dX3_write_14 : decode cX3_write 14 = .ok (.aload_n 0, 1) := by decide +kernel
theorem dX3_write_15 : decode cX3_write 15 = .ok (.getfield 13, 3) := by decide +kernel
theorem dX3_write_18 : decode cX3_write 18 = .ok (.bipush 64, 2) := by decide +kernel
theorem dX3_write_20 : decode cX3_write 20 = .ok (.if_icmp .lt 6, 3) := by decide +kernel
theorem dX3_write_23 : decode cX3_write 23 = .ok (.bipush (-4), 2) := by decide +kernel
theorem dX3_write_25 : decode cX3_write 25 = .ok (.ireturn, 1) := by decide +kernel
theorem dX3_write_26 : decode cX3_write 26 = .ok (.aload_n 0, 1) := by decide +kernel
theorem dX3_write_27 : decode cX3_write 27 = .ok (.getfield 9, 3) := by decide +kernel
theorem dX3_write_30 : decode cX3_write 30 = .ok (.aload_n 0, 1) := by decide +kernel
theorem dX3_write_31 : decode cX3_write 31 = .ok (.getfield 13, 3) := by decide +kernel
theorem dX3_write_34 : decode cX3_write 34 = .ok (.iload_n 1, 1) := by decide +kernel
theorem dX3_write_35 : decode cX3_write 35 = .ok (.iastore, 1) := by decide +kernel
theorem dX3_write_36 : decode cX3_write 36 = .ok (.aload_n 0, 1) := by decide +kernel
theorem dX3_write_37 : decode cX3_write 37 = .ok (.dup, 1) := by decide +kernel
theorem dX3_write_38 : decode cX3_write 38 = .ok (.getfield 13, 3) := by decide +kernel
theorem dX3_write_41 : decode cX3_write 41 = .ok (.iconst 1, 1) := by decide +kernel
theorem dX3_write_42 : decode cX3_write 42 = .ok (.iadd, 1) := by decide +kernel
theorem dX3_write_43 : decode cX3_write 43 = .ok (.putfield 13, 3) := by decide +kernel
theorem dX3_write_46 : decode cX3_write 46 = .ok (.aload_n 0, 1) := by decide +kernel
theorem dX3_write_47 : decode cX3_write 47 = .ok (.getfield 13, 3) := by decide +kernel
theorem dX3_write_50 : decode cX3_write 50 = .ok (.ireturn, 1) := by decide +kernel
theorem dX3_wipe_0 : decode cX3_wipe 0 = .ok (.aload_n 0, 1) := by decide +kernel
theorem dX3_wipe_1 : decode cX3_wipe 1 = .ok (.getfield 13, 3) := by decide +kernel
theorem dX3_wipe_4 : decode cX3_wipe 4 = .ok (.istore_n 1, 1) := by decide +kernel
theorem dX3_wipe_5 : decode cX3_wipe 5 = .ok (.aload_n 0, 1) := by decide +kernel
theorem dX3_wipe_6 : decode cX3_wipe 6 = .ok (.iconst 0, 1) := by decide +kernel
theorem dX3_wipe_7 : decode cX3_wipe 7 = .ok (.putfield 13, 3) := by decide +kernel
theorem dX3_wipe_10 : decode cX3_wipe 10 = .ok (.iload_n 1, 1) := by decide +kernel
theorem dX3_wipe_11 : decode cX3_wipe 11 = .ok (.ireturn, 1) := by decide +kernel
set_option maxRecDepth 20000 in
theorem ggX3_fault_X0_read : GoodIn wsX3_fault wsX0_read := goodIn_r _ [8, 9, 10, 11, 12, 13, 7, 14, 15, 16, 17, 18, 19, 20, 21, 22, 23, 24, 25, 26, 27, 28, 29, 30, 31, 32, 33, 34, 52, 53, 54, 55, 56, 57, 58, 59, 60, 61] (by decide +kernel) (by decide +kernel)
set_option maxRecDepth 20000 in
theorem gX3_fault_X0_read : GoodIn wsX3_fault (wsV RX3 78 RX0 yX0_read wsX0_read) := goodIn_app (goodIn_of _ (by decide +kernel)) ggX3_fault_X0_read
theorem dX3_fault_0 : decode cX3_fault 0 = .ok (.aload_n 0, 1) := by decide +kernel
theorem dX3_fault_1 : decode cX3_fault 1 = .ok (.getfield 24, 3) := by decide +kernel
theorem dX3_fault_4 : decode cX3_fault 4 = .ok (.aload_n 0, 1) := by decide +kernel
theorem dX3_fault_5 : decode cX3_fault 5 = .ok (.getfield 9, 3) := by decide +kernel
theorem dX3_fault_8 : decode cX3_fault 8 = .ok (.aload_n 0, 1) := by decide +kernel
theorem dX3_fault_9 : decode cX3_fault 9 = .ok (.getfield 13, 3) := by decide +kernel
theorem dX3_fault_12 : decode cX3_fault 12 = .ok (.invokevirtual 78, 3) := by decide +kernel
theorem dX3_fault_15 : decode cX3_fault 15 = .ok (.ireturn, 1) := by decide +kernel
set_option maxRecDepth 20000 in
theorem ggX3_line_X0_read : GoodIn wsX3_line wsX0_read := goodIn_r _ [13, 14, 15, 16, 17, 18, 12, 19, 20, 21, 22, 23, 24, 25, 26, 27, 28, 29, 30, 31, 32, 33, 34, 35, 36, 37, 38, 39, 90, 91, 92, 93, 94, 95, 96, 97, 98, 99] (by decide +kernel) (by decide +kernel)
set_option maxRecDepth 20000 in
theorem gX3_line_X0_read : GoodIn wsX3_line (wsV RX3 78 RX0 yX0_read wsX0_read) := goodIn_app (goodIn_of _ (by decide +kernel)) ggX3_line_X0_read
theorem dX3_line_0 : decode cX3_line 0 = .ok (.aload_n 0, 1) := by decide +kernel
theorem dX3_line_1 : decode cX3_line 1 = .ok (.getfield 24, 3) := by decide +kernel
theorem dX3_line_4 : decode cX3_line 4 = .ok (.aload_n 0, 1) := by decide +kernel
theorem dX3_line_5 : decode cX3_line 5 = .ok (.getfield 9, 3) := by decide +kernel
theorem dX3_line_8 : decode cX3_line 8 = .ok (.aload_n 0, 1) := by decide +kernel
theorem dX3_line_9 : decode cX3_line 9 = .ok (.getfield 13, 3) := by decide +kernel
theorem dX3_line_12 : decode cX3_line 12 = .ok (.invokevirtual 78, 3) := by decide +kernel
theorem dX3_line_15 : decode cX3_line 15 = .ok (.bipush (-9), 2) := by decide +kernel
theorem dX3_line_17 : decode cX3_line 17 = .ok (.if_icmp .eq 6, 3) := by decide +kernel
theorem dX3_line_20 : decode cX3_line 20 = .ok (.bipush (-3), 2) := by decide +kernel
theorem dX3_line_22 : decode cX3_line 22 = .ok (.ireturn, 1) := by decide +kernel
set_option maxRecDepth 20000 in
theorem ggX3_person_X0_hasPerson : GoodIn wsX3_person wsX0_hasPerson := goodIn_r _ [10, 11, 73, 74, 75, 76, 77, 78, 79, 80, 81, 82] (by decide +kernel) (by decide +kernel)
set_option maxRecDepth 20000 in
theorem gX3_person_X0_hasPerson : GoodIn wsX3_person (wsV RX3 97 RX0 yX0_hasPerson wsX0_hasPerson) := goodIn_app (goodIn_of _ (by decide +kernel)) ggX3_person_X0_hasPerson
theorem dX3_person_0 : decode cX3_person 0 = .ok (.aload_n 0, 1) := by decide +kernel
theorem dX3_person_1 : decode cX3_person 1 = .ok (.getfield 20, 3) := by decide +kernel
theorem dX3_person_4 : decode cX3_person 4 = .ok (.iload_n 1, 1) := by decide +kernel
theorem dX3_person_5 : decode cX3_person 5 = .ok (.invokevirtual 97, 3) := by decide +kernel
theorem dX3_person_8 : decode cX3_person 8 = .ok (.ifCond .ne 5, 3) := by decide +kernel
theorem dX3_person_11 : decode cX3_person 11 = .ok (.iconst (-1), 1) := by decide +kernel
theorem dX3_person_12 : decode cX3_person 12 = .ok (.ireturn, 1) := by decide +kernel
set_option maxRecDepth 20000 in
theorem ggX3_ticket_X1_hasTicket : GoodIn wsX3_ticket wsX1_hasTicket := goodIn_r _ [10, 11, 51, 52, 53, 54, 55, 56, 57, 58] (by decide +kernel) (by decide +kernel)
set_option maxRecDepth 20000 in
theorem gX3_ticket_X1_hasTicket : GoodIn wsX3_ticket (wsV RX3 117 RX1 yX1_hasTicket wsX1_hasTicket) := goodIn_app (goodIn_of _ (by decide +kernel)) ggX3_ticket_X1_hasTicket
theorem dX3_ticket_0 : decode cX3_ticket 0 = .ok (.aload_n 0, 1) := by decide +kernel
theorem dX3_ticket_1 : decode cX3_ticket 1 = .ok (.getfield 32, 3) := by decide +kernel
theorem dX3_ticket_4 : decode cX3_ticket 4 = .ok (.iload_n 1, 1) := by decide +kernel
theorem dX3_ticket_5 : decode cX3_ticket 5 = .ok (.invokevirtual 117, 3) := by decide +kernel
theorem dX3_ticket_8 : decode cX3_ticket 8 = .ok (.ifCond .ne 5, 3) := by decide +kernel
theorem dX3_ticket_11 : decode cX3_ticket 11 = .ok (.iconst (-1), 1) := by decide +kernel
theorem dX3_ticket_12 : decode cX3_ticket 12 = .ok (.ireturn, 1) := by decide +kernel
set_option maxRecDepth 20000 in
theorem ggX3_give_X1_hasTicket : GoodIn wsX3_give wsX1_hasTicket := goodIn_r _ [8, 9, 77, 78, 79, 80, 81, 82, 83, 84] (by decide +kernel) (by decide +kernel)
set_option maxRecDepth 20000 in
theorem gX3_give_X1_hasTicket : GoodIn wsX3_give (wsV RX3 117 RX1 yX1_hasTicket wsX1_hasTicket) := goodIn_app (goodIn_of _ (by decide +kernel)) ggX3_give_X1_hasTicket
theorem dX3_give_0 : decode cX3_give 0 = .ok (.aload_n 0, 1) := by decide +kernel
theorem dX3_give_1 : decode cX3_give 1 = .ok (.getfield 32, 3) := by decide +kernel
theorem dX3_give_4 : decode cX3_give 4 = .ok (.iload_n 1, 1) := by decide +kernel
theorem dX3_give_5 : decode cX3_give 5 = .ok (.invokevirtual 117, 3) := by decide +kernel
theorem dX3_give_8 : decode cX3_give 8 = .ok (.ifCond .eq 14, 3) := by decide +kernel
theorem dX3_give_22 : decode cX3_give 22 = .ok (.iconst (-1), 1) := by decide +kernel
theorem dX3_give_23 : decode cX3_give 23 = .ok (.ireturn, 1) := by decide +kernel
set_option maxRecDepth 20000 in
theorem ggX3_lose_X1_hasTicket : GoodIn wsX3_lose wsX1_hasTicket := goodIn_r _ [8, 9, 68, 69, 70, 71, 72, 73, 74, 75] (by decide +kernel) (by decide +kernel)
set_option maxRecDepth 20000 in
theorem gX3_lose_X1_hasTicket : GoodIn wsX3_lose (wsV RX3 117 RX1 yX1_hasTicket wsX1_hasTicket) := goodIn_app (goodIn_of _ (by decide +kernel)) ggX3_lose_X1_hasTicket
theorem dX3_lose_0 : decode cX3_lose 0 = .ok (.aload_n 0, 1) := by decide +kernel
theorem dX3_lose_1 : decode cX3_lose 1 = .ok (.getfield 32, 3) := by decide +kernel
theorem dX3_lose_4 : decode cX3_lose 4 = .ok (.iload_n 1, 1) := by decide +kernel
theorem dX3_lose_5 : decode cX3_lose 5 = .ok (.invokevirtual 117, 3) := by decide +kernel
theorem dX3_lose_8 : decode cX3_lose 8 = .ok (.ifCond .ne 5, 3) := by decide +kernel
theorem dX3_lose_11 : decode cX3_lose 11 = .ok (.iconst (-1), 1) := by decide +kernel
theorem dX3_lose_12 : decode cX3_lose 12 = .ok (.ireturn, 1) := by decide +kernel
set_option maxRecDepth 20000 in
theorem ggX3_change_X1_hasTicket : GoodIn wsX3_change wsX1_hasTicket := goodIn_r _ [7, 8, 75, 76, 77, 78, 79, 80, 81, 82] (by decide +kernel) (by decide +kernel)
set_option maxRecDepth 20000 in
theorem gX3_change_X1_hasTicket : GoodIn wsX3_change (wsV RX3 117 RX1 yX1_hasTicket wsX1_hasTicket) := goodIn_app (goodIn_of _ (by decide +kernel)) ggX3_change_X1_hasTicket
theorem dX3_change_0 : decode cX3_change 0 = .ok (.aload_n 0, 1) := by decide +kernel
theorem dX3_change_1 : decode cX3_change 1 = .ok (.getfield 32, 3) := by decide +kernel
theorem dX3_change_4 : decode cX3_change 4 = .ok (.iload_n 1, 1) := by decide +kernel
theorem dX3_change_5 : decode cX3_change 5 = .ok (.invokevirtual 117, 3) := by decide +kernel
theorem dX3_change_8 : decode cX3_change 8 = .ok (.ifCond .eq 14, 3) := by decide +kernel
theorem dX3_change_22 : decode cX3_change 22 = .ok (.iconst (-1), 1) := by decide +kernel
theorem dX3_change_23 : decode cX3_change 23 = .ok (.ireturn, 1) := by decide +kernel
theorem dX3_undo_0 : decode cX3_undo 0 = .ok (.aload_n 0, 1) := by decide +kernel
theorem dX3_undo_1 : decode cX3_undo 1 = .ok (.getfield 43, 3) := by decide +kernel
theorem dX3_undo_4 : decode cX3_undo 4 = .ok (.ifCond .gt 6, 3) := by decide +kernel
theorem dX3_undo_7 : decode cX3_undo 7 = .ok (.bipush (-3), 2) := by decide +kernel
theorem dX3_undo_9 : decode cX3_undo 9 = .ok (.ireturn, 1) := by decide +kernel
set_option maxRecDepth 20000 in
theorem ggX3_where_X0_hasPerson : GoodIn wsX3_where wsX0_hasPerson := goodIn_r _ [11, 12, 103, 104, 105, 106, 107, 108, 109, 110, 111, 112] (by decide +kernel) (by decide +kernel)
set_option maxRecDepth 20000 in
theorem gX3_where_X0_hasPerson : GoodIn wsX3_where (wsV RX3 97 RX0 yX0_hasPerson wsX0_hasPerson) := goodIn_app (goodIn_of _ (by decide +kernel)) ggX3_where_X0_hasPerson
theorem dX3_where_0 : decode cX3_where 0 = .ok (.aload_n 0, 1) := by decide +kernel
theorem dX3_where_1 : decode cX3_where 1 = .ok (.getfield 20, 3) := by decide +kernel
theorem dX3_where_4 : decode cX3_where 4 = .ok (.iload_n 1, 1) := by decide +kernel
theorem dX3_where_5 : decode cX3_where 5 = .ok (.invokevirtual 97, 3) := by decide +kernel
theorem dX3_where_8 : decode cX3_where 8 = .ok (.ifCond .ne 5, 3) := by decide +kernel
theorem dX3_where_11 : decode cX3_where 11 = .ok (.iconst (-1), 1) := by decide +kernel
theorem dX3_where_12 : decode cX3_where 12 = .ok (.ireturn, 1) := by decide +kernel
set_option maxRecDepth 20000 in
theorem ggX3_meet_X3_pairRefusal : GoodIn wsX3_meet wsX3_pairRefusal := goodIn_r _ [7, 8, 9, 10, 11, 12, 13, 14, 100, 101, 102, 103, 104, 105, 106, 107, 108, 109, 110, 111, 112, 113, 114, 115, 116, 117, 118, 119, 120, 121, 122, 123, 124, 125, 126] (by decide +kernel) (by decide +kernel)
set_option maxRecDepth 20000 in
theorem gX3_meet_X3_pairRefusal : GoodIn wsX3_meet (wsV RX3 181 RX3 yX3_pairRefusal wsX3_pairRefusal) := goodIn_app (goodIn_of _ (by decide +kernel)) ggX3_meet_X3_pairRefusal
theorem dX3_meet_0 : decode cX3_meet 0 = .ok (.aload_n 0, 1) := by decide +kernel
theorem dX3_meet_1 : decode cX3_meet 1 = .ok (.iload_n 1, 1) := by decide +kernel
theorem dX3_meet_2 : decode cX3_meet 2 = .ok (.iload_n 2, 1) := by decide +kernel
theorem dX3_meet_3 : decode cX3_meet 3 = .ok (.invokevirtual 181, 3) := by decide +kernel
theorem dX3_meet_6 : decode cX3_meet 6 = .ok (.istore_n 3, 1) := by decide +kernel
theorem dX3_meet_7 : decode cX3_meet 7 = .ok (.iload_n 3, 1) := by decide +kernel
theorem dX3_meet_8 : decode cX3_meet 8 = .ok (.ifCond .eq 5, 3) := by decide +kernel
theorem dX3_meet_11 : decode cX3_meet 11 = .ok (.iload_n 3, 1) := by decide +kernel
theorem dX3_meet_12 : decode cX3_meet 12 = .ok (.ireturn, 1) := by decide +kernel
set_option maxRecDepth 20000 in
theorem ggX3_fewest_X3_pairRefusal : GoodIn wsX3_fewest wsX3_pairRefusal := goodIn_r _ [7, 8, 9, 10, 11, 12, 13, 14, 121, 122, 123, 124, 125, 126, 127, 128, 129, 130, 131, 132, 133, 134, 135, 136, 137, 138, 139, 140, 141, 142, 143, 144, 145, 146, 147] (by decide +kernel) (by decide +kernel)
set_option maxRecDepth 20000 in
theorem gX3_fewest_X3_pairRefusal : GoodIn wsX3_fewest (wsV RX3 181 RX3 yX3_pairRefusal wsX3_pairRefusal) := goodIn_app (goodIn_of _ (by decide +kernel)) ggX3_fewest_X3_pairRefusal
theorem dX3_fewest_0 : decode cX3_fewest 0 = .ok (.aload_n 0, 1) := by decide +kernel
theorem dX3_fewest_1 : decode cX3_fewest 1 = .ok (.iload_n 1, 1) := by decide +kernel
theorem dX3_fewest_2 : decode cX3_fewest 2 = .ok (.iload_n 2, 1) := by decide +kernel
theorem dX3_fewest_3 : decode cX3_fewest 3 = .ok (.invokevirtual 181, 3) := by decide +kernel
theorem dX3_fewest_6 : decode cX3_fewest 6 = .ok (.istore 4, 2) := by decide +kernel
theorem dX3_fewest_8 : decode cX3_fewest 8 = .ok (.iload 4, 2) := by decide +kernel
theorem dX3_fewest_10 : decode cX3_fewest 10 = .ok (.ifCond .eq 6, 3) := by decide +kernel
theorem dX3_fewest_13 : decode cX3_fewest 13 = .ok (.iload 4, 2) := by decide +kernel
theorem dX3_fewest_15 : decode cX3_fewest 15 = .ok (.ireturn, 1) := by decide +kernel
set_option maxRecDepth 20000 in
theorem ggX3_falls_X1_hasTicket : GoodIn wsX3_falls wsX1_hasTicket := goodIn_r _ [9, 10, 100, 101, 102, 103, 104, 105, 106, 107] (by decide +kernel) (by decide +kernel)
set_option maxRecDepth 20000 in
theorem gX3_falls_X1_hasTicket : GoodIn wsX3_falls (wsV RX3 117 RX1 yX1_hasTicket wsX1_hasTicket) := goodIn_app (goodIn_of _ (by decide +kernel)) ggX3_falls_X1_hasTicket
theorem dX3_falls_0 : decode cX3_falls 0 = .ok (.aload_n 0, 1) := by decide +kernel
theorem dX3_falls_1 : decode cX3_falls 1 = .ok (.getfield 32, 3) := by decide +kernel
theorem dX3_falls_4 : decode cX3_falls 4 = .ok (.iload_n 1, 1) := by decide +kernel
theorem dX3_falls_5 : decode cX3_falls 5 = .ok (.invokevirtual 117, 3) := by decide +kernel
theorem dX3_falls_8 : decode cX3_falls 8 = .ok (.ifCond .ne 5, 3) := by decide +kernel
theorem dX3_falls_11 : decode cX3_falls 11 = .ok (.iconst (-1), 1) := by decide +kernel
theorem dX3_falls_12 : decode cX3_falls 12 = .ok (.ireturn, 1) := by decide +kernel
set_option maxRecDepth 20000 in
theorem ggX3_share_X1_hasTicket : GoodIn wsX3_share wsX1_hasTicket := goodIn_r _ [6, 7, 132, 133, 134, 135, 136, 137, 138, 139] (by decide +kernel) (by decide +kernel)
set_option maxRecDepth 20000 in
theorem gX3_share_X1_hasTicket : GoodIn wsX3_share (wsV RX3 117 RX1 yX1_hasTicket wsX1_hasTicket) := goodIn_app (goodIn_of _ (by decide +kernel)) ggX3_share_X1_hasTicket
theorem dX3_share_0 : decode cX3_share 0 = .ok (.aload_n 0, 1) := by decide +kernel
theorem dX3_share_1 : decode cX3_share 1 = .ok (.getfield 32, 3) := by decide +kernel
theorem dX3_share_4 : decode cX3_share 4 = .ok (.iload_n 1, 1) := by decide +kernel
theorem dX3_share_5 : decode cX3_share 5 = .ok (.invokevirtual 117, 3) := by decide +kernel
theorem dX3_share_8 : decode cX3_share 8 = .ok (.ifCond .ne 5, 3) := by decide +kernel
theorem dX3_share_11 : decode cX3_share 11 = .ok (.iconst (-1), 1) := by decide +kernel
theorem dX3_share_12 : decode cX3_share 12 = .ok (.ireturn, 1) := by decide +kernel
set_option maxRecDepth 20000 in
theorem ggX3_blank_X0_hasPerson : GoodIn wsX3_blank wsX0_hasPerson := goodIn_r _ [8, 9, 153, 154, 155, 156, 157, 158, 159, 160, 161, 162] (by decide +kernel) (by decide +kernel)
set_option maxRecDepth 20000 in
theorem gX3_blank_X0_hasPerson : GoodIn wsX3_blank (wsV RX3 97 RX0 yX0_hasPerson wsX0_hasPerson) := goodIn_app (goodIn_of _ (by decide +kernel)) ggX3_blank_X0_hasPerson
theorem dX3_blank_0 : decode cX3_blank 0 = .ok (.aload_n 0, 1) := by decide +kernel
theorem dX3_blank_1 : decode cX3_blank 1 = .ok (.getfield 20, 3) := by decide +kernel
theorem dX3_blank_4 : decode cX3_blank 4 = .ok (.iload_n 1, 1) := by decide +kernel
theorem dX3_blank_5 : decode cX3_blank 5 = .ok (.invokevirtual 97, 3) := by decide +kernel
theorem dX3_blank_8 : decode cX3_blank 8 = .ok (.ifCond .ne 5, 3) := by decide +kernel
theorem dX3_blank_11 : decode cX3_blank 11 = .ok (.iconst (-1), 1) := by decide +kernel
theorem dX3_blank_12 : decode cX3_blank 12 = .ok (.ireturn, 1) := by decide +kernel
set_option maxRecDepth 20000 in
theorem ggX3_see_X0_hasPerson : GoodIn wsX3_see wsX0_hasPerson := goodIn_r _ [10, 11, 33, 34, 35, 36, 37, 38, 39, 40, 41, 42] (by decide +kernel) (by decide +kernel)
set_option maxRecDepth 20000 in
theorem gX3_see_X0_hasPerson : GoodIn wsX3_see (wsV RX3 97 RX0 yX0_hasPerson wsX0_hasPerson) := goodIn_app (goodIn_of _ (by decide +kernel)) ggX3_see_X0_hasPerson
theorem dX3_see_0 : decode cX3_see 0 = .ok (.aload_n 0, 1) := by decide +kernel
theorem dX3_see_1 : decode cX3_see 1 = .ok (.getfield 20, 3) := by decide +kernel
theorem dX3_see_4 : decode cX3_see 4 = .ok (.iload_n 1, 1) := by decide +kernel
theorem dX3_see_5 : decode cX3_see 5 = .ok (.invokevirtual 97, 3) := by decide +kernel
theorem dX3_see_8 : decode cX3_see 8 = .ok (.ifCond .ne 5, 3) := by decide +kernel
theorem dX3_see_11 : decode cX3_see 11 = .ok (.iconst (-1), 1) := by decide +kernel
theorem dX3_see_12 : decode cX3_see 12 = .ok (.ireturn, 1) := by decide +kernel
theorem dX3_unsee_0 : decode cX3_unsee 0 = .ok (.aload_n 0, 1) := by decide +kernel
theorem dX3_unsee_1 : decode cX3_unsee 1 = .ok (.getfield 61, 3) := by decide +kernel
theorem dX3_unsee_4 : decode cX3_unsee 4 = .ok (.istore_n 1, 1) := by decide +kernel
theorem dX3_unsee_5 : decode cX3_unsee 5 = .ok (.aload_n 0, 1) := by decide +kernel
theorem dX3_unsee_6 : decode cX3_unsee 6 = .ok (.iconst 0, 1) := by decide +kernel
theorem dX3_unsee_7 : decode cX3_unsee 7 = .ok (.putfield 61, 3) := by decide +kernel
theorem dX3_unsee_10 : decode cX3_unsee 10 = .ok (.iload_n 1, 1) := by decide +kernel
theorem dX3_unsee_11 : decode cX3_unsee 11 = .ok (.ireturn, 1) := by decide +kernel
set_option maxRecDepth 20000 in
theorem ggX3_held_X1_hasTicket : GoodIn wsX3_held wsX1_hasTicket := goodIn_r _ [11, 12, 120, 121, 122, 123, 124, 125, 126, 127] (by decide +kernel) (by decide +kernel)
set_option maxRecDepth 20000 in
theorem gX3_held_X1_hasTicket : GoodIn wsX3_held (wsV RX3 117 RX1 yX1_hasTicket wsX1_hasTicket) := goodIn_app (goodIn_of _ (by decide +kernel)) ggX3_held_X1_hasTicket
theorem dX3_held_0 : decode cX3_held 0 = .ok (.aload_n 0, 1) := by decide +kernel
theorem dX3_held_1 : decode cX3_held 1 = .ok (.getfield 32, 3) := by decide +kernel
theorem dX3_held_4 : decode cX3_held 4 = .ok (.iload_n 1, 1) := by decide +kernel
theorem dX3_held_5 : decode cX3_held 5 = .ok (.invokevirtual 117, 3) := by decide +kernel
theorem dX3_held_8 : decode cX3_held 8 = .ok (.ifCond .ne 5, 3) := by decide +kernel
theorem dX3_held_11 : decode cX3_held 11 = .ok (.iconst (-1), 1) := by decide +kernel
theorem dX3_held_12 : decode cX3_held 12 = .ok (.ireturn, 1) := by decide +kernel
set_option maxRecDepth 20000 in
theorem ggX3_losses_X0_hasPerson : GoodIn wsX3_losses wsX0_hasPerson := goodIn_r _ [7, 8, 124, 125, 126, 127, 128, 129, 130, 131, 132, 133] (by decide +kernel) (by decide +kernel)
set_option maxRecDepth 20000 in
theorem gX3_losses_X0_hasPerson : GoodIn wsX3_losses (wsV RX3 97 RX0 yX0_hasPerson wsX0_hasPerson) := goodIn_app (goodIn_of _ (by decide +kernel)) ggX3_losses_X0_hasPerson
theorem dX3_losses_0 : decode cX3_losses 0 = .ok (.aload_n 0, 1) := by decide +kernel
theorem dX3_losses_1 : decode cX3_losses 1 = .ok (.getfield 20, 3) := by decide +kernel
theorem dX3_losses_4 : decode cX3_losses 4 = .ok (.iload_n 1, 1) := by decide +kernel
theorem dX3_losses_5 : decode cX3_losses 5 = .ok (.invokevirtual 97, 3) := by decide +kernel
theorem dX3_losses_8 : decode cX3_losses 8 = .ok (.ifCond .ne 5, 3) := by decide +kernel
theorem dX3_losses_11 : decode cX3_losses 11 = .ok (.iconst (-1), 1) := by decide +kernel
theorem dX3_losses_12 : decode cX3_losses 12 = .ok (.ireturn, 1) := by decide +kernel
theorem dX3_seed_0 : decode cX3_seed 0 = .ok (.aload_n 0, 1) := by decide +kernel
theorem dX3_seed_1 : decode cX3_seed 1 = .ok (.getfield 64, 3) := by decide +kernel
theorem dX3_seed_4 : decode cX3_seed 4 = .ok (.lstore_n 3, 1) := by decide +kernel
theorem dX3_seed_5 : decode cX3_seed 5 = .ok (.aload_n 0, 1) := by decide +kernel
theorem dX3_seed_6 : decode cX3_seed 6 = .ok (.lload_n 1, 1) := by decide +kernel
theorem dX3_seed_7 : decode cX3_seed 7 = .ok (.putfield 64, 3) := by decide +kernel
theorem dX3_seed_10 : decode cX3_seed 10 = .ok (.lload_n 3, 1) := by decide +kernel
theorem dX3_seed_11 : decode cX3_seed 11 = .ok (.lreturn, 1) := by decide +kernel
set_option maxRecDepth 20000 in
theorem ggX3_pairRefusal_X0_hasPerson : GoodIn wsX3_pairRefusal wsX0_hasPerson := goodIn_r _ [6, 7, 25, 26, 27, 28, 29, 30, 31, 32, 33, 34] (by decide +kernel) (by decide +kernel)
set_option maxRecDepth 20000 in
theorem gX3_pairRefusal_X0_hasPerson : GoodIn wsX3_pairRefusal (wsV RX3 97 RX0 yX0_hasPerson wsX0_hasPerson) := goodIn_app (goodIn_of _ (by decide +kernel)) ggX3_pairRefusal_X0_hasPerson
theorem dX3_pairRefusal_0 : decode cX3_pairRefusal 0 = .ok (.aload_n 0, 1) := by decide +kernel
theorem dX3_pairRefusal_1 : decode cX3_pairRefusal 1 = .ok (.getfield 20, 3) := by decide +kernel
theorem dX3_pairRefusal_4 : decode cX3_pairRefusal 4 = .ok (.iload_n 1, 1) := by decide +kernel
theorem dX3_pairRefusal_5 : decode cX3_pairRefusal 5 = .ok (.invokevirtual 97, 3) := by decide +kernel
theorem dX3_pairRefusal_8 : decode cX3_pairRefusal 8 = .ok (.ifCond .eq 14, 3) := by decide +kernel
theorem dX3_pairRefusal_22 : decode cX3_pairRefusal 22 = .ok (.iconst (-1), 1) := by decide +kernel
theorem dX3_pairRefusal_23 : decode cX3_pairRefusal 23 = .ok (.ireturn, 1) := by decide +kernel
set_option maxHeartbeats 600000 in
set_option maxRecDepth 100000 in
theorem c_X3_write (l : Launch) (D : va_G) (cI cZ cM : ClassId) (h0 : Nat) (n : Int32) (tx : Nat) (le : Int32) (td : Nat) (dr : Nat) (nw : Nat) (ac : Nat) (fa : Int32) (an : Int32) (kp : Nat) (ks : Int32) (sp : Nat) (ss : Nat) (sy : Nat) (sc : Int32) (sd : Int64) (tr : Nat) (ia : Nat) (Ftx : Nat → Int32) (sz : Nat) (h_le : 0 ≤ le.toInt ∧ le.toInt ≤ 64) : Ci l yX3_write wsX3_write ({ frames := 0, cells := 0, slots := 0, locals := 0 } : Room) D cI cZ cM [.ref h0, .int n] [(h0, .inr (3, [.ref tx, .int le, .ref td, .ref dr, .ref nw, .ref ac, .int fa, .int an, .ref kp, .int ks, .ref sp, .ref ss, .ref sy, .int sc, .long sd, .ref tr, .ref ia])), (tx, .inl (cI, 64, .inl Ftx))] sz (fun (r : Int32) (u : Int32 × (Nat → Int32)) => (((n.toInt < 0 ∨ 255 < n.toInt) ∧ r.toInt = -2 ∧ u.1.toInt = le.toInt) ∨ (0 ≤ n.toInt ∧ n.toInt ≤ 255 ∧ le.toInt = 64 ∧ r.toInt = -4 ∧ u.1.toInt = le.toInt) ∨ (0 ≤ n.toInt ∧ n.toInt ≤ 255 ∧ le.toInt < 64 ∧ r.toInt = le.toInt + 1 ∧ u.1.toInt = le.toInt + 1))) (fun u => [(h0, .inr (3, [.ref tx, .int u.1, .ref td, .ref dr, .ref nw, .ref ac, .int fa, .int an, .ref kp, .int ks, .ref sp, .ref ss, .ref sy, .int sc, .long sd, .ref tr, .ref ia])), (tx, .inl (cI, 64, .inl u.2))]) 0 0 := by
  refine begins (l := l) (y := yX3_write) (ws := wsX3_write) (av := [.ref h0, .int n]) (Qc := fun A => va_Qi (fun (r : Int32) (u : Int32 × (Nat → Int32)) => (((n.toInt < 0 ∨ 255 < n.toInt) ∧ r.toInt = -2 ∧ u.1.toInt = le.toInt) ∨ (0 ≤ n.toInt ∧ n.toInt ≤ 255 ∧ le.toInt = 64 ∧ r.toInt = -4 ∧ u.1.toInt = le.toInt) ∨ (0 ≤ n.toInt ∧ n.toInt ≤ 255 ∧ le.toInt < 64 ∧ r.toInt = le.toInt + 1 ∧ u.1.toInt = le.toInt + 1))) (fun u => Wd D cI cZ cM A ((fun u => [(h0, .inr (3, [.ref tx, .int u.1, .ref td, .ref dr, .ref nw, .ref ac, .int fa, .int an, .ref kp, .int ks, .ref sp, .ref ss, .ref sy, .int sc, .long sd, .ref tr, .ref ia])), (tx, .inl (cI, 64, .inl u.2))]) u)) A) cX3_write 2 (some .int) (by decide) rfl (Nat.le_of_ble_eq_true rfl) ?_
  intro p e s m args below meth c R Q A ls hBd hR hQ hA hS hK hP hD hl
  obtain ⟨hx, hb, hr, hts, hown, hlocks, hin, hml⟩ := hBd
  have hl : lv_has ls 2 [(0, .ref h0), (1, .int n)] := hl
  have iX3 : ∀ w ∈ wsX30, w ∈ wsX3_write := fun _ h => List.mem_cons_of_mem _ (List.mem_append_right _ h)
  obtain ⟨h_lea, h_leb⟩ := h_le
  refine lv_iload_n hx hb dX3_write_0 rfl (lv_at hl 1 rfl) ?_
  refine lv_if_lt (tgt := 11) hx hb dX3_write_1 (by decide) (fun c_1 => ?_) (fun c_1 => ?_)
  · have tc_1 := b_lt rfl (show (0 : Int32).toInt = 0 by decide) c_1
    refine lv_bipush (v := (-2)) hx hb dX3_write_11 (by decide) ?_
    exact ret_i (post := (fun (r : Int32) (u : Int32 × (Nat → Int32)) => (((n.toInt < 0 ∨ 255 < n.toInt) ∧ r.toInt = -2 ∧ u.1.toInt = le.toInt) ∨ (0 ≤ n.toInt ∧ n.toInt ≤ 255 ∧ le.toInt = 64 ∧ r.toInt = -4 ∧ u.1.toInt = le.toInt) ∨ (0 ≤ n.toInt ∧ n.toInt ≤ 255 ∧ le.toInt < 64 ∧ r.toInt = le.toInt + 1 ∧ u.1.toInt = le.toInt + 1)))) (W1 := (fun u => [(h0, .inr (3, [.ref tx, .int u.1, .ref td, .ref dr, .ref nw, .ref ac, .int fa, .int an, .ref kp, .int ks, .ref sp, .ref ss, .ref sy, .int sc, .long sd, .ref tr, .ref ia])), (tx, .inl (cI, 64, .inl u.2))])) (le, Ftx) hx hb hr hlocks rfl hQ hK hP hD hS ⟨by decide, by decide⟩ dX3_write_13 (show (((n.toInt < 0 ∨ 255 < n.toInt) ∧ (-2 : Int) = -2 ∧ le.toInt = le.toInt) ∨ (0 ≤ n.toInt ∧ n.toInt ≤ 255 ∧ le.toInt = 64 ∧ (-2 : Int) = -4 ∧ le.toInt = le.toInt) ∨ (0 ≤ n.toInt ∧ n.toInt ≤ 255 ∧ le.toInt < 64 ∧ (-2 : Int) = le.toInt + 1 ∧ le.toInt = le.toInt + 1)) by omega)
  · have tc_1 := b_nlt rfl (show (0 : Int32).toInt = 0 by decide) c_1
    refine lv_iload_n hx hb dX3_write_4 rfl (lv_at hl 1 rfl) ?_
    refine lv_sipush (v := 255) hx hb dX3_write_5 (by decide) ?_
    refine lv_icmp_le (tgt := 14) hx hb dX3_write_8 (by decide) (fun c_2 => ?_) (fun c_2 => ?_)
    · have tc_2 := b_le rfl (show (255 : Int32).toInt = 255 by decide) c_2
      refine lv_aload_n hx hb dX3_write_14 rfl (lv_at hl 0 rfl) ?_
      refine va_get (D := D) (ci := 3) (v := .int le) (C := RX3) (T := TX3) (N := 17) hx hb hts iX3 hown hK hP 0 rfl rfl 1 (by decide) (hts (.fieldLink RX3 13 "PunchedTicket" "letters" "I") (List.mem_of_getElem? (i := 1) rfl)) (fun _ h9 => h9) rfl dX3_write_15 ?_
      refine lv_bipush (v := 64) hx hb dX3_write_18 (by decide) ?_
      refine lv_icmp_lt (tgt := 26) hx hb dX3_write_20 (by decide) (fun c_3 => ?_) (fun c_3 => ?_)
      · have tc_3 := b_lt rfl (show (64 : Int32).toInt = 64 by decide) c_3
        refine lv_aload_n hx hb dX3_write_26 rfl (lv_at hl 0 rfl) ?_
        refine va_get (D := D) (ci := 3) (v := .ref tx) (C := RX3) (T := TX3) (N := 17) hx hb hts iX3 hown hK hP 0 rfl rfl 0 (by decide) (hts (.fieldLink RX3 9 "PunchedTicket" "text" "[I") (List.mem_of_getElem? (i := 2) rfl)) (fun _ h9 => h9) rfl dX3_write_27 ?_
        refine lv_aload_n hx hb dX3_write_30 rfl (lv_at hl 0 rfl) ?_
        refine va_get (D := D) (ci := 3) (v := .int le) (C := RX3) (T := TX3) (N := 17) hx hb hts iX3 hown hK hP 0 rfl rfl 1 (by decide) (hts (.fieldLink RX3 13 "PunchedTicket" "letters" "I") (List.mem_of_getElem? (i := 1) rfl)) (fun _ h9 => h9) rfl dX3_write_31 ?_
        refine lv_iload_n hx hb dX3_write_34 rfl (lv_at hl 1 rfl) ?_
        refine va_iast hx hb hK hP hD hS 1 0 rfl rfl (vp_in_iff.mpr ⟨by omega, by omega⟩) dX3_write_35 (fun H locs hP hD hS => ?_)
        obtain ⟨f_4, ef_4⟩ : ∃ g : Nat → Int32, upd Ftx (le : Int32).toNatClampNeg n = g := ⟨_, rfl⟩
        rw [ef_4] at hP hD
        have hP : va_P D vwCl [(h0, .inr (3, [.ref tx, .int le, .ref td, .ref dr, .ref nw, .ref ac, .int fa, .int an, .ref kp, .int ks, .ref sp, .ref ss, .ref sy, .int sc, .long sd, .ref tr, .ref ia])), (tx, .inl (cI, 64, .inl f_4))] H := hP
        have hD : va_D A [(h0, .inr (3, [.ref tx, .int le, .ref td, .ref dr, .ref nw, .ref ac, .int fa, .int an, .ref kp, .int ks, .ref sp, .ref ss, .ref sy, .int sc, .long sd, .ref tr, .ref ia])), (tx, .inl (cI, 64, .inl f_4))] := hD
        refine lv_aload_n hx hb dX3_write_36 rfl (lv_at hl 0 rfl) ?_
        refine lv_dup hx hb dX3_write_37 rfl ?_
        refine va_get (D := D) (ci := 3) (v := .int le) (C := RX3) (T := TX3) (N := 17) hx hb hts iX3 hown hK hP 0 rfl rfl 1 (by decide) (hts (.fieldLink RX3 13 "PunchedTicket" "letters" "I") (List.mem_of_getElem? (i := 1) rfl)) (fun _ h9 => h9) rfl dX3_write_38 ?_
        refine lv_iconst (v := 1) hx hb dX3_write_41 (by decide) ?_
        refine lv_iadd hx hb dX3_write_42 ?_
        refine lv_topi (fun v_5 ev_5 => ?_)
        have tv_5 : v_5.toInt = le.toInt + (1 : Int) := by rw [ev_5]; exact ti_add (x := le) (y := 1) (show -2147483648 ≤ le.toInt + (1 : Int) by omega) (show le.toInt + (1 : Int) < 2147483648 by omega)
        refine va_put (D := D) (ci := 3) (v := .int v_5) (ty := .int) (C := RX3) (T := TX3) (N := 17) hx hb hts iX3 tyX3 tyX3_ok nmX3 hown hK hP hD hS 0 rfl rfl 1 (by decide) (hts (.fieldLink RX3 13 "PunchedTicket" "letters" "I") (List.mem_of_getElem? (i := 1) rfl)) (fun _ h9 => h9) rfl (by decide +kernel) rfl rfl (Nat.le_of_ble_eq_true rfl) dX3_write_43 (fun H locs hP hD hS => ?_)
        have hP : va_P D vwCl [(h0, .inr (3, [.ref tx, .int v_5, .ref td, .ref dr, .ref nw, .ref ac, .int fa, .int an, .ref kp, .int ks, .ref sp, .ref ss, .ref sy, .int sc, .long sd, .ref tr, .ref ia])), (tx, .inl (cI, 64, .inl f_4))] H := hP
        have hD : va_D A [(h0, .inr (3, [.ref tx, .int v_5, .ref td, .ref dr, .ref nw, .ref ac, .int fa, .int an, .ref kp, .int ks, .ref sp, .ref ss, .ref sy, .int sc, .long sd, .ref tr, .ref ia])), (tx, .inl (cI, 64, .inl f_4))] := hD
        refine lv_aload_n hx hb dX3_write_46 rfl (lv_at hl 0 rfl) ?_
        refine va_get (D := D) (ci := 3) (v := .int v_5) (C := RX3) (T := TX3) (N := 17) hx hb hts iX3 hown hK hP 0 rfl rfl 1 (by decide) (hts (.fieldLink RX3 13 "PunchedTicket" "letters" "I") (List.mem_of_getElem? (i := 1) rfl)) (fun _ h9 => h9) rfl dX3_write_47 ?_
        exact ret_i (post := (fun (r : Int32) (u : Int32 × (Nat → Int32)) => (((n.toInt < 0 ∨ 255 < n.toInt) ∧ r.toInt = -2 ∧ u.1.toInt = le.toInt) ∨ (0 ≤ n.toInt ∧ n.toInt ≤ 255 ∧ le.toInt = 64 ∧ r.toInt = -4 ∧ u.1.toInt = le.toInt) ∨ (0 ≤ n.toInt ∧ n.toInt ≤ 255 ∧ le.toInt < 64 ∧ r.toInt = le.toInt + 1 ∧ u.1.toInt = le.toInt + 1)))) (W1 := (fun u => [(h0, .inr (3, [.ref tx, .int u.1, .ref td, .ref dr, .ref nw, .ref ac, .int fa, .int an, .ref kp, .int ks, .ref sp, .ref ss, .ref sy, .int sc, .long sd, .ref tr, .ref ia])), (tx, .inl (cI, 64, .inl u.2))])) (v_5, f_4) hx hb hr hlocks rfl hQ hK hP hD hS ⟨by decide, by decide⟩ dX3_write_50 (show (((n.toInt < 0 ∨ 255 < n.toInt) ∧ v_5.toInt = -2 ∧ v_5.toInt = le.toInt) ∨ (0 ≤ n.toInt ∧ n.toInt ≤ 255 ∧ le.toInt = 64 ∧ v_5.toInt = -4 ∧ v_5.toInt = le.toInt) ∨ (0 ≤ n.toInt ∧ n.toInt ≤ 255 ∧ le.toInt < 64 ∧ v_5.toInt = le.toInt + 1 ∧ v_5.toInt = le.toInt + 1)) by omega)
      · have tc_3 := b_nlt rfl (show (64 : Int32).toInt = 64 by decide) c_3
        refine lv_bipush (v := (-4)) hx hb dX3_write_23 (by decide) ?_
        exact ret_i (post := (fun (r : Int32) (u : Int32 × (Nat → Int32)) => (((n.toInt < 0 ∨ 255 < n.toInt) ∧ r.toInt = -2 ∧ u.1.toInt = le.toInt) ∨ (0 ≤ n.toInt ∧ n.toInt ≤ 255 ∧ le.toInt = 64 ∧ r.toInt = -4 ∧ u.1.toInt = le.toInt) ∨ (0 ≤ n.toInt ∧ n.toInt ≤ 255 ∧ le.toInt < 64 ∧ r.toInt = le.toInt + 1 ∧ u.1.toInt = le.toInt + 1)))) (W1 := (fun u => [(h0, .inr (3, [.ref tx, .int u.1, .ref td, .ref dr, .ref nw, .ref ac, .int fa, .int an, .ref kp, .int ks, .ref sp, .ref ss, .ref sy, .int sc, .long sd, .ref tr, .ref ia])), (tx, .inl (cI, 64, .inl u.2))])) (le, Ftx) hx hb hr hlocks rfl hQ hK hP hD hS ⟨by decide, by decide⟩ dX3_write_25 (show (((n.toInt < 0 ∨ 255 < n.toInt) ∧ (-4 : Int) = -2 ∧ le.toInt = le.toInt) ∨ (0 ≤ n.toInt ∧ n.toInt ≤ 255 ∧ le.toInt = 64 ∧ (-4 : Int) = -4 ∧ le.toInt = le.toInt) ∨ (0 ≤ n.toInt ∧ n.toInt ≤ 255 ∧ le.toInt < 64 ∧ (-4 : Int) = le.toInt + 1 ∧ le.toInt = le.toInt + 1)) by omega)
    · have tc_2 := b_nle rfl (show (255 : Int32).toInt = 255 by decide) c_2
      refine lv_bipush (v := (-2)) hx hb dX3_write_11 (by decide) ?_
      exact ret_i (post := (fun (r : Int32) (u : Int32 × (Nat → Int32)) => (((n.toInt < 0 ∨ 255 < n.toInt) ∧ r.toInt = -2 ∧ u.1.toInt = le.toInt) ∨ (0 ≤ n.toInt ∧ n.toInt ≤ 255 ∧ le.toInt = 64 ∧ r.toInt = -4 ∧ u.1.toInt = le.toInt) ∨ (0 ≤ n.toInt ∧ n.toInt ≤ 255 ∧ le.toInt < 64 ∧ r.toInt = le.toInt + 1 ∧ u.1.toInt = le.toInt + 1)))) (W1 := (fun u => [(h0, .inr (3, [.ref tx, .int u.1, .ref td, .ref dr, .ref nw, .ref ac, .int fa, .int an, .ref kp, .int ks, .ref sp, .ref ss, .ref sy, .int sc, .long sd, .ref tr, .ref ia])), (tx, .inl (cI, 64, .inl u.2))])) (le, Ftx) hx hb hr hlocks rfl hQ hK hP hD hS ⟨by decide, by decide⟩ dX3_write_13 (show (((n.toInt < 0 ∨ 255 < n.toInt) ∧ (-2 : Int) = -2 ∧ le.toInt = le.toInt) ∨ (0 ≤ n.toInt ∧ n.toInt ≤ 255 ∧ le.toInt = 64 ∧ (-2 : Int) = -4 ∧ le.toInt = le.toInt) ∨ (0 ≤ n.toInt ∧ n.toInt ≤ 255 ∧ le.toInt < 64 ∧ (-2 : Int) = le.toInt + 1 ∧ le.toInt = le.toInt + 1)) by omega)

set_option maxHeartbeats 600000 in
set_option maxRecDepth 100000 in
theorem c_X3_wipe (l : Launch) (D : va_G) (cI cZ cM : ClassId) (h0 : Nat) (tx : Nat) (le : Int32) (td : Nat) (dr : Nat) (nw : Nat) (ac : Nat) (fa : Int32) (an : Int32) (kp : Nat) (ks : Int32) (sp : Nat) (ss : Nat) (sy : Nat) (sc : Int32) (sd : Int64) (tr : Nat) (ia : Nat) (sz : Nat)  : Ci l yX3_wipe wsX3_wipe ({ frames := 0, cells := 0, slots := 0, locals := 0 } : Room) D cI cZ cM [.ref h0] [(h0, .inr (3, [.ref tx, .int le, .ref td, .ref dr, .ref nw, .ref ac, .int fa, .int an, .ref kp, .int ks, .ref sp, .ref ss, .ref sy, .int sc, .long sd, .ref tr, .ref ia]))] sz (fun (r : Int32) (u : Unit) => r.toInt = le.toInt) (fun u => [(h0, .inr (3, [.ref tx, .int 0, .ref td, .ref dr, .ref nw, .ref ac, .int fa, .int an, .ref kp, .int ks, .ref sp, .ref ss, .ref sy, .int sc, .long sd, .ref tr, .ref ia]))]) 0 0 := by
  refine begins (l := l) (y := yX3_wipe) (ws := wsX3_wipe) (av := [.ref h0]) (Qc := fun A => va_Qi (fun (r : Int32) (u : Unit) => r.toInt = le.toInt) (fun u => Wd D cI cZ cM A ((fun u => [(h0, .inr (3, [.ref tx, .int 0, .ref td, .ref dr, .ref nw, .ref ac, .int fa, .int an, .ref kp, .int ks, .ref sp, .ref ss, .ref sy, .int sc, .long sd, .ref tr, .ref ia]))]) u)) A) cX3_wipe 2 (some .int) (by decide) rfl (Nat.le_of_ble_eq_true rfl) ?_
  intro p e s m args below meth c R Q A ls hBd hR hQ hA hS hK hP hD hl
  obtain ⟨hx, hb, hr, hts, hown, hlocks, hin, hml⟩ := hBd
  have hl : lv_has ls 2 [(0, .ref h0)] := hl
  have iX3 : ∀ w ∈ wsX30, w ∈ wsX3_wipe := fun _ h => List.mem_cons_of_mem _ (List.mem_append_right _ h)
  refine lv_aload_n hx hb dX3_wipe_0 rfl (lv_at hl 0 rfl) ?_
  refine va_get (D := D) (ci := 3) (v := .int le) (C := RX3) (T := TX3) (N := 17) hx hb hts iX3 hown hK hP 0 rfl rfl 1 (by decide) (hts (.fieldLink RX3 13 "PunchedTicket" "letters" "I") (List.mem_of_getElem? (i := 1) rfl)) (fun _ h9 => h9) rfl dX3_wipe_1 ?_
  refine lv_istore_n (lv' := [(1, .int le), (0, .ref h0)]) hx hb dX3_wipe_4 rfl hl (by decide) rfl (fun ls hl => ?_)
  refine lv_aload_n hx hb dX3_wipe_5 rfl (lv_at hl 1 rfl) ?_
  refine lv_iconst (v := 0) hx hb dX3_wipe_6 (by decide) ?_
  refine va_put (D := D) (ci := 3) (v := .int 0) (ty := .int) (C := RX3) (T := TX3) (N := 17) hx hb hts iX3 tyX3 tyX3_ok nmX3 hown hK hP hD hS 0 rfl rfl 1 (by decide) (hts (.fieldLink RX3 13 "PunchedTicket" "letters" "I") (List.mem_of_getElem? (i := 1) rfl)) (fun _ h9 => h9) rfl (by decide +kernel) rfl rfl (Nat.le_of_ble_eq_true rfl) dX3_wipe_7 (fun H locs hP hD hS => ?_)
  have hP : va_P D vwCl [(h0, .inr (3, [.ref tx, .int 0, .ref td, .ref dr, .ref nw, .ref ac, .int fa, .int an, .ref kp, .int ks, .ref sp, .ref ss, .ref sy, .int sc, .long sd, .ref tr, .ref ia]))] H := hP
  have hD : va_D A [(h0, .inr (3, [.ref tx, .int 0, .ref td, .ref dr, .ref nw, .ref ac, .int fa, .int an, .ref kp, .int ks, .ref sp, .ref ss, .ref sy, .int sc, .long sd, .ref tr, .ref ia]))] := hD
  refine lv_iload_n hx hb dX3_wipe_10 rfl (lv_at hl 0 rfl) ?_
  exact ret_i (post := (fun (r : Int32) (u : Unit) => r.toInt = le.toInt)) (W1 := (fun u => [(h0, .inr (3, [.ref tx, .int 0, .ref td, .ref dr, .ref nw, .ref ac, .int fa, .int an, .ref kp, .int ks, .ref sp, .ref ss, .ref sy, .int sc, .long sd, .ref tr, .ref ia]))])) () hx hb hr hlocks rfl hQ hK hP hD hS ⟨by decide, by decide⟩ dX3_wipe_11 (show le.toInt = le.toInt by omega)

set_option maxHeartbeats 600000 in
set_option maxRecDepth 100000 in
theorem c_X3_unsee (l : Launch) (D : va_G) (cI cZ cM : ClassId) (h0 : Nat) (tx : Nat) (le : Int32) (td : Nat) (dr : Nat) (nw : Nat) (ac : Nat) (fa : Int32) (an : Int32) (kp : Nat) (ks : Int32) (sp : Nat) (ss : Nat) (sy : Nat) (sc : Int32) (sd : Int64) (tr : Nat) (ia : Nat) (sz : Nat)  : Ci l yX3_unsee wsX3_unsee ({ frames := 0, cells := 0, slots := 0, locals := 0 } : Room) D cI cZ cM [.ref h0] [(h0, .inr (3, [.ref tx, .int le, .ref td, .ref dr, .ref nw, .ref ac, .int fa, .int an, .ref kp, .int ks, .ref sp, .ref ss, .ref sy, .int sc, .long sd, .ref tr, .ref ia]))] sz (fun (r : Int32) (u : Unit) => r.toInt = sc.toInt) (fun u => [(h0, .inr (3, [.ref tx, .int le, .ref td, .ref dr, .ref nw, .ref ac, .int fa, .int an, .ref kp, .int ks, .ref sp, .ref ss, .ref sy, .int 0, .long sd, .ref tr, .ref ia]))]) 0 0 := by
  refine begins (l := l) (y := yX3_unsee) (ws := wsX3_unsee) (av := [.ref h0]) (Qc := fun A => va_Qi (fun (r : Int32) (u : Unit) => r.toInt = sc.toInt) (fun u => Wd D cI cZ cM A ((fun u => [(h0, .inr (3, [.ref tx, .int le, .ref td, .ref dr, .ref nw, .ref ac, .int fa, .int an, .ref kp, .int ks, .ref sp, .ref ss, .ref sy, .int 0, .long sd, .ref tr, .ref ia]))]) u)) A) cX3_unsee 2 (some .int) (by decide) rfl (Nat.le_of_ble_eq_true rfl) ?_
  intro p e s m args below meth c R Q A ls hBd hR hQ hA hS hK hP hD hl
  obtain ⟨hx, hb, hr, hts, hown, hlocks, hin, hml⟩ := hBd
  have hl : lv_has ls 2 [(0, .ref h0)] := hl
  have iX3 : ∀ w ∈ wsX30, w ∈ wsX3_unsee := fun _ h => List.mem_cons_of_mem _ (List.mem_append_right _ h)
  refine lv_aload_n hx hb dX3_unsee_0 rfl (lv_at hl 0 rfl) ?_
  refine va_get (D := D) (ci := 3) (v := .int sc) (C := RX3) (T := TX3) (N := 17) hx hb hts iX3 hown hK hP 0 rfl rfl 13 (by decide) (hts (.fieldLink RX3 61 "PunchedTicket" "seenCount" "I") (List.mem_of_getElem? (i := 1) rfl)) (fun _ h9 => h9) rfl dX3_unsee_1 ?_
  refine lv_istore_n (lv' := [(1, .int sc), (0, .ref h0)]) hx hb dX3_unsee_4 rfl hl (by decide) rfl (fun ls hl => ?_)
  refine lv_aload_n hx hb dX3_unsee_5 rfl (lv_at hl 1 rfl) ?_
  refine lv_iconst (v := 0) hx hb dX3_unsee_6 (by decide) ?_
  refine va_put (D := D) (ci := 3) (v := .int 0) (ty := .int) (C := RX3) (T := TX3) (N := 17) hx hb hts iX3 tyX3 tyX3_ok nmX3 hown hK hP hD hS 0 rfl rfl 13 (by decide) (hts (.fieldLink RX3 61 "PunchedTicket" "seenCount" "I") (List.mem_of_getElem? (i := 1) rfl)) (fun _ h9 => h9) rfl (by decide +kernel) rfl rfl (Nat.le_of_ble_eq_true rfl) dX3_unsee_7 (fun H locs hP hD hS => ?_)
  have hP : va_P D vwCl [(h0, .inr (3, [.ref tx, .int le, .ref td, .ref dr, .ref nw, .ref ac, .int fa, .int an, .ref kp, .int ks, .ref sp, .ref ss, .ref sy, .int 0, .long sd, .ref tr, .ref ia]))] H := hP
  have hD : va_D A [(h0, .inr (3, [.ref tx, .int le, .ref td, .ref dr, .ref nw, .ref ac, .int fa, .int an, .ref kp, .int ks, .ref sp, .ref ss, .ref sy, .int 0, .long sd, .ref tr, .ref ia]))] := hD
  refine lv_iload_n hx hb dX3_unsee_10 rfl (lv_at hl 0 rfl) ?_
  exact ret_i (post := (fun (r : Int32) (u : Unit) => r.toInt = sc.toInt)) (W1 := (fun u => [(h0, .inr (3, [.ref tx, .int le, .ref td, .ref dr, .ref nw, .ref ac, .int fa, .int an, .ref kp, .int ks, .ref sp, .ref ss, .ref sy, .int 0, .long sd, .ref tr, .ref ia]))])) () hx hb hr hlocks rfl hQ hK hP hD hS ⟨by decide, by decide⟩ dX3_unsee_11 (show sc.toInt = sc.toInt by omega)

set_option maxHeartbeats 600000 in
set_option maxRecDepth 100000 in
theorem c_X3_seed (l : Launch) (D : va_G) (cI cZ cM : ClassId) (h0 : Nat) (n : Int64) (tx : Nat) (le : Int32) (td : Nat) (dr : Nat) (nw : Nat) (ac : Nat) (fa : Int32) (an : Int32) (kp : Nat) (ks : Int32) (sp : Nat) (ss : Nat) (sy : Nat) (sc : Int32) (sd : Int64) (tr : Nat) (ia : Nat) (sz : Nat)  : Cl l yX3_seed wsX3_seed ({ frames := 0, cells := 0, slots := 0, locals := 0 } : Room) D cI cZ cM [.ref h0, .long n] [(h0, .inr (3, [.ref tx, .int le, .ref td, .ref dr, .ref nw, .ref ac, .int fa, .int an, .ref kp, .int ks, .ref sp, .ref ss, .ref sy, .int sc, .long sd, .ref tr, .ref ia]))] sz (fun (r : Int64) (u : Unit) => r = sd) (fun u => [(h0, .inr (3, [.ref tx, .int le, .ref td, .ref dr, .ref nw, .ref ac, .int fa, .int an, .ref kp, .int ks, .ref sp, .ref ss, .ref sy, .int sc, .long n, .ref tr, .ref ia]))]) 0 0 := by
  refine begins (l := l) (y := yX3_seed) (ws := wsX3_seed) (av := [.ref h0, .long n]) (Qc := fun A => va_Ql (fun (r : Int64) (u : Unit) => r = sd) (fun u => Wd D cI cZ cM A ((fun u => [(h0, .inr (3, [.ref tx, .int le, .ref td, .ref dr, .ref nw, .ref ac, .int fa, .int an, .ref kp, .int ks, .ref sp, .ref ss, .ref sy, .int sc, .long n, .ref tr, .ref ia]))]) u)) A) cX3_seed 5 (some .long) (by decide) rfl (Nat.le_of_ble_eq_true rfl) ?_
  intro p e s m args below meth c R Q A ls hBd hR hQ hA hS hK hP hD hl
  obtain ⟨hx, hb, hr, hts, hown, hlocks, hin, hml⟩ := hBd
  have hl : lv_has ls 5 [(0, .ref h0), (1, .long n)] := hl
  have iX3 : ∀ w ∈ wsX30, w ∈ wsX3_seed := fun _ h => List.mem_cons_of_mem _ (List.mem_append_right _ h)
  refine lv_aload_n hx hb dX3_seed_0 rfl (lv_at hl 0 rfl) ?_
  refine va_get (D := D) (ci := 3) (v := .long sd) (C := RX3) (T := TX3) (N := 17) hx hb hts iX3 hown hK hP 0 rfl rfl 14 (by decide) (hts (.fieldLink RX3 64 "PunchedTicket" "theSeed" "J") (List.mem_of_getElem? (i := 1) rfl)) (fun _ h9 => h9) rfl dX3_seed_1 ?_
  refine lv_lstore_n (lv' := [(3, .long sd), (0, .ref h0), (1, .long n)]) hx hb dX3_seed_4 rfl hl (by decide) rfl (fun ls hl => ?_)
  refine lv_aload_n hx hb dX3_seed_5 rfl (lv_at hl 1 rfl) ?_
  refine lv_lload_n hx hb dX3_seed_6 rfl (lv_at hl 2 rfl) ?_
  refine va_put (D := D) (ci := 3) (v := .long n) (ty := .long) (C := RX3) (T := TX3) (N := 17) hx hb hts iX3 tyX3 tyX3_ok nmX3 hown hK hP hD hS 0 rfl rfl 14 (by decide) (hts (.fieldLink RX3 64 "PunchedTicket" "theSeed" "J") (List.mem_of_getElem? (i := 1) rfl)) (fun _ h9 => h9) rfl (by decide +kernel) rfl rfl (Nat.le_of_ble_eq_true rfl) dX3_seed_7 (fun H locs hP hD hS => ?_)
  have hP : va_P D vwCl [(h0, .inr (3, [.ref tx, .int le, .ref td, .ref dr, .ref nw, .ref ac, .int fa, .int an, .ref kp, .int ks, .ref sp, .ref ss, .ref sy, .int sc, .long n, .ref tr, .ref ia]))] H := hP
  have hD : va_D A [(h0, .inr (3, [.ref tx, .int le, .ref td, .ref dr, .ref nw, .ref ac, .int fa, .int an, .ref kp, .int ks, .ref sp, .ref ss, .ref sy, .int sc, .long n, .ref tr, .ref ia]))] := hD
  refine lv_lload_n hx hb dX3_seed_10 rfl (lv_at hl 0 rfl) ?_
  exact ret_l (post := (fun (r : Int64) (u : Unit) => r = sd)) (W1 := (fun u => [(h0, .inr (3, [.ref tx, .int le, .ref td, .ref dr, .ref nw, .ref ac, .int fa, .int an, .ref kp, .int ks, .ref sp, .ref ss, .ref sy, .int sc, .long n, .ref tr, .ref ia]))])) () hx hb hr hlocks hQ hK hP hD hS ⟨by decide, by decide⟩ dX3_seed_11 rfl

set_option maxHeartbeats 600000 in
set_option maxRecDepth 100000 in
theorem c_X0_read0 (l : Launch) (D : va_G) (cI cZ cM : ClassId) (h0 : Nat) (tx : Nat) (lpe : Int32) (ltk : Int32) (lho : Nat) (lli : Nat) (lki : Nat) (lfd : Nat) (lfr : Nat) (lto : Nat) (lse : Nat) (lhl : Nat) (sz : Nat)  : Ci l yX0_read wsX0_read ({ frames := 0, cells := 0, slots := 0, locals := 0 } : Room) D cI cZ cM [.ref h0, .ref tx, .int 0] [(h0, .inr (0, [.int lpe, .int ltk, .ref lho, .ref lli, .ref lki, .ref lfd, .ref lfr, .ref lto, .ref lse, .ref lhl]))] sz (fun (r : Int32) (u : Unit) => r.toInt = 0) (fun u => [(h0, .inr (0, [.int 0, .int 0, .ref lho, .ref lli, .ref lki, .ref lfd, .ref lfr, .ref lto, .ref lse, .ref lhl]))]) 0 0 := by
  refine begins (l := l) (y := yX0_read) (ws := wsX0_read) (av := [.ref h0, .ref tx, .int 0]) (Qc := fun A => va_Qi (fun (r : Int32) (u : Unit) => r.toInt = 0) (fun u => Wd D cI cZ cM A ((fun u => [(h0, .inr (0, [.int 0, .int 0, .ref lho, .ref lli, .ref lki, .ref lfd, .ref lfr, .ref lto, .ref lse, .ref lhl]))]) u)) A) cX0_read 6 (some .int) (by decide) rfl (Nat.le_of_ble_eq_true rfl) ?_
  intro p e s m args below meth c R Q A ls hBd hR hQ hA hS hK hP hD hl
  obtain ⟨hx, hb, hr, hts, hown, hlocks, hin, hml⟩ := hBd
  have hl : lv_has ls 6 [(0, .ref h0), (1, .ref tx), (2, .int 0)] := hl
  have iX0 : ∀ w ∈ wsX00, w ∈ wsX0_read := fun _ h => List.mem_cons_of_mem _ (List.mem_append_right _ h)
  refine lv_aload_n hx hb dX0_read_0 rfl (lv_at hl 0 rfl) ?_
  refine lv_iconst (v := 0) hx hb dX0_read_1 (by decide) ?_
  refine va_put (D := D) (ci := 0) (v := .int 0) (ty := .int) (C := RX0) (T := TX0) (N := 10) hx hb hts iX0 tyX0 tyX0_ok nmX0 hown hK hP hD hS 0 rfl rfl 0 (by decide) (hts (.fieldLink RX0 9 "PunchedTicket$Line" "people" "I") (List.mem_of_getElem? (i := 1) rfl)) (fun _ h9 => h9) rfl (by decide +kernel) rfl rfl (Nat.le_of_ble_eq_true rfl) dX0_read_2 (fun H locs hP hD hS => ?_)
  have hP : va_P D vwCl [(h0, .inr (0, [.int 0, .int ltk, .ref lho, .ref lli, .ref lki, .ref lfd, .ref lfr, .ref lto, .ref lse, .ref lhl]))] H := hP
  have hD : va_D A [(h0, .inr (0, [.int 0, .int ltk, .ref lho, .ref lli, .ref lki, .ref lfd, .ref lfr, .ref lto, .ref lse, .ref lhl]))] := hD
  refine lv_aload_n hx hb dX0_read_5 rfl (lv_at hl 0 rfl) ?_
  refine lv_iconst (v := 0) hx hb dX0_read_6 (by decide) ?_
  refine va_put (D := D) (ci := 0) (v := .int 0) (ty := .int) (C := RX0) (T := TX0) (N := 10) hx hb hts iX0 tyX0 tyX0_ok nmX0 hown hK hP hD hS 0 rfl rfl 1 (by decide) (hts (.fieldLink RX0 15 "PunchedTicket$Line" "tickets" "I") (List.mem_of_getElem? (i := 2) rfl)) (fun _ h9 => h9) rfl (by decide +kernel) rfl rfl (Nat.le_of_ble_eq_true rfl) dX0_read_7 (fun H locs hP hD hS => ?_)
  have hP : va_P D vwCl [(h0, .inr (0, [.int 0, .int 0, .ref lho, .ref lli, .ref lki, .ref lfd, .ref lfr, .ref lto, .ref lse, .ref lhl]))] H := hP
  have hD : va_D A [(h0, .inr (0, [.int 0, .int 0, .ref lho, .ref lli, .ref lki, .ref lfd, .ref lfr, .ref lto, .ref lse, .ref lhl]))] := hD
  refine lv_iload_n hx hb dX0_read_10 rfl (lv_at hl 2 rfl) ?_
  refine lv_iconst (v := 1) hx hb dX0_read_11 (by decide) ?_
  refine lv_icmp_lt (tgt := 29) hx hb dX0_read_12 (by decide) (fun c_1 => ?_) (fun c_1 => ?_)
  · have tc_1 := b_lt (show (0 : Int32).toInt = 0 by decide) (show (1 : Int32).toInt = 1 by decide) c_1
    refine lv_iconst (v := 0) hx hb dX0_read_29 (by decide) ?_
    exact ret_i (post := (fun (r : Int32) (u : Unit) => r.toInt = 0)) (W1 := (fun u => [(h0, .inr (0, [.int 0, .int 0, .ref lho, .ref lli, .ref lki, .ref lfd, .ref lfr, .ref lto, .ref lse, .ref lhl]))])) () hx hb hr hlocks rfl hQ hK hP hD hS ⟨by decide, by decide⟩ dX0_read_30 (show (0 : Int) = 0 by omega)
  · have tc_1 := b_nlt (show (0 : Int32).toInt = 0 by decide) (show (1 : Int32).toInt = 1 by decide) c_1
    exfalso; omega

set_option maxHeartbeats 600000 in
set_option maxRecDepth 100000 in
theorem c_X3_fault0 (l : Launch) (D : va_G) (cI cZ cM : ClassId) (h0 : Nat) (tx : Nat) (td : Nat) (dr : Nat) (nw : Nat) (ac : Nat) (fa : Int32) (an : Int32) (kp : Nat) (ks : Int32) (sp : Nat) (ss : Nat) (sy : Nat) (sc : Int32) (sd : Int64) (tr : Nat) (ia : Nat) (lpe : Int32) (ltk : Int32) (lho : Nat) (lli : Nat) (lki : Nat) (lfd : Nat) (lfr : Nat) (lto : Nat) (lse : Nat) (lhl : Nat) (sz : Nat)  : Ci l yX3_fault wsX3_fault ({ frames := 1, cells := 0, slots := 0, locals := 25 } : Room) D cI cZ cM [.ref h0] [(h0, .inr (3, [.ref tx, .int 0, .ref td, .ref dr, .ref nw, .ref ac, .int fa, .int an, .ref kp, .int ks, .ref sp, .ref ss, .ref sy, .int sc, .long sd, .ref tr, .ref ia])), (dr, .inr (0, [.int lpe, .int ltk, .ref lho, .ref lli, .ref lki, .ref lfd, .ref lfr, .ref lto, .ref lse, .ref lhl]))] sz (fun (r : Int32) (u : Unit) => r.toInt = 0) (fun u => [(h0, .inr (3, [.ref tx, .int 0, .ref td, .ref dr, .ref nw, .ref ac, .int fa, .int an, .ref kp, .int ks, .ref sp, .ref ss, .ref sy, .int sc, .long sd, .ref tr, .ref ia])), (dr, .inr (0, [.int 0, .int 0, .ref lho, .ref lli, .ref lki, .ref lfd, .ref lfr, .ref lto, .ref lse, .ref lhl]))]) 0 0 := by
  refine begins (l := l) (y := yX3_fault) (ws := wsX3_fault) (av := [.ref h0]) (Qc := fun A => va_Qi (fun (r : Int32) (u : Unit) => r.toInt = 0) (fun u => Wd D cI cZ cM A ((fun u => [(h0, .inr (3, [.ref tx, .int 0, .ref td, .ref dr, .ref nw, .ref ac, .int fa, .int an, .ref kp, .int ks, .ref sp, .ref ss, .ref sy, .int sc, .long sd, .ref tr, .ref ia])), (dr, .inr (0, [.int 0, .int 0, .ref lho, .ref lli, .ref lki, .ref lfd, .ref lfr, .ref lto, .ref lse, .ref lhl]))]) u)) A) cX3_fault 1 (some .int) (by decide) rfl (Nat.le_of_ble_eq_true rfl) ?_
  intro p e s m args below meth c R Q A ls hBd hR hQ hA hS hK hP hD hl
  obtain ⟨hx, hb, hr, hts, hown, hlocks, hin, hml⟩ := hBd
  have hl : lv_has ls 1 [(0, .ref h0)] := hl
  have iX3 : ∀ w ∈ wsX30, w ∈ wsX3_fault := fun _ h => List.mem_cons_of_mem _ (List.mem_append_left _ (List.mem_append_right _ h))
  have iX0 : ∀ w ∈ wsX00, w ∈ wsX3_fault := fun _ h => List.mem_cons_of_mem _ (List.mem_append_right _ h)
  refine lv_aload_n hx hb dX3_fault_0 rfl (lv_at hl 0 rfl) ?_
  refine va_get (D := D) (ci := 3) (v := .ref dr) (C := RX3) (T := TX3) (N := 17) hx hb hts iX3 hown hK hP 0 rfl rfl 3 (by decide) (hts (.fieldLink RX3 24 "PunchedTicket" "draft" "LPunchedTicket$Line;") (List.mem_of_getElem? (i := 1) rfl)) (fun _ h9 => h9) rfl dX3_fault_1 ?_
  refine lv_aload_n hx hb dX3_fault_4 rfl (lv_at hl 0 rfl) ?_
  refine va_get (D := D) (ci := 3) (v := .ref tx) (C := RX3) (T := TX3) (N := 17) hx hb hts iX3 hown hK hP 0 rfl rfl 0 (by decide) (hts (.fieldLink RX3 9 "PunchedTicket" "text" "[I") (List.mem_of_getElem? (i := 2) rfl)) (fun _ h9 => h9) rfl dX3_fault_5 ?_
  refine lv_aload_n hx hb dX3_fault_8 rfl (lv_at hl 0 rfl) ?_
  refine va_get (D := D) (ci := 3) (v := .int 0) (C := RX3) (T := TX3) (N := 17) hx hb hts iX3 hown hK hP 0 rfl rfl 1 (by decide) (hts (.fieldLink RX3 13 "PunchedTicket" "letters" "I") (List.mem_of_getElem? (i := 3) rfl)) (fun _ h9 => h9) rfl dX3_fault_9 ?_
  refine cV_i (As := [.ref tx, .int 0]) (rest := []) ⟨hx, hb, hml, hown, hts⟩ (c_X0_read0 l D cI cZ cM dr tx lpe ltk lho lli lki lfd lfr lto lse lhl _ ) (cwV 2 hts gX3_fault_X0_read rfl rfl rfl (by decide +kernel) ⟨by rw [hR]; decide, by rw [hR]; decide⟩) hK hP hD hS hA [1] [0] rfl rfl (by decide) (by decide) (by decide) rfl 1 rfl hl.1 rfl rfl (Nat.le_of_ble_eq_true rfl) dX3_fault_12 ⟨by rw [hR]; decide, by rw [hR]; decide⟩ (fun r_1 u_2 H locs hw hP hD hS => ?_)
  have hP : va_P D vwCl [(h0, .inr (3, [.ref tx, .int 0, .ref td, .ref dr, .ref nw, .ref ac, .int fa, .int an, .ref kp, .int ks, .ref sp, .ref ss, .ref sy, .int sc, .long sd, .ref tr, .ref ia])), (dr, .inr (0, [.int 0, .int 0, .ref lho, .ref lli, .ref lki, .ref lfd, .ref lfr, .ref lto, .ref lse, .ref lhl]))] H := hP.sub [0, 1] rfl
  have hD : va_D A [(h0, .inr (3, [.ref tx, .int 0, .ref td, .ref dr, .ref nw, .ref ac, .int fa, .int an, .ref kp, .int ks, .ref sp, .ref ss, .ref sy, .int sc, .long sd, .ref tr, .ref ia])), (dr, .inr (0, [.int 0, .int 0, .ref lho, .ref lli, .ref lki, .ref lfd, .ref lfr, .ref lto, .ref lse, .ref lhl]))] := hD.sub [0, 1] (by decide) rfl
  refine W.widen (k := 0) (n := 0) (Nat.le_refl _) (Nat.le_refl _) ?_
  have hw : r_1.toInt = 0 := hw
  have hw_3 := hw
  exact ret_i (post := (fun (r : Int32) (u : Unit) => r.toInt = 0)) (W1 := (fun u => [(h0, .inr (3, [.ref tx, .int 0, .ref td, .ref dr, .ref nw, .ref ac, .int fa, .int an, .ref kp, .int ks, .ref sp, .ref ss, .ref sy, .int sc, .long sd, .ref tr, .ref ia])), (dr, .inr (0, [.int 0, .int 0, .ref lho, .ref lli, .ref lki, .ref lfd, .ref lfr, .ref lto, .ref lse, .ref lhl]))])) () hx hb hr hlocks rfl hQ hK hP hD hS ⟨by decide, by decide⟩ dX3_fault_15 (show r_1.toInt = 0 by omega)

set_option maxHeartbeats 600000 in
set_option maxRecDepth 100000 in
theorem c_X3_line0 (l : Launch) (D : va_G) (cI cZ cM : ClassId) (h0 : Nat) (tx : Nat) (td : Nat) (dr : Nat) (nw : Nat) (ac : Nat) (fa : Int32) (an : Int32) (kp : Nat) (ks : Int32) (sp : Nat) (ss : Nat) (sy : Nat) (sc : Int32) (sd : Int64) (tr : Nat) (ia : Nat) (lpe : Int32) (ltk : Int32) (lho : Nat) (lli : Nat) (lki : Nat) (lfd : Nat) (lfr : Nat) (lto : Nat) (lse : Nat) (lhl : Nat) (sz : Nat)  : Ci l yX3_line wsX3_line ({ frames := 1, cells := 0, slots := 0, locals := 25 } : Room) D cI cZ cM [.ref h0] [(h0, .inr (3, [.ref tx, .int 0, .ref td, .ref dr, .ref nw, .ref ac, .int fa, .int an, .ref kp, .int ks, .ref sp, .ref ss, .ref sy, .int sc, .long sd, .ref tr, .ref ia])), (dr, .inr (0, [.int lpe, .int ltk, .ref lho, .ref lli, .ref lki, .ref lfd, .ref lfr, .ref lto, .ref lse, .ref lhl]))] sz (fun (r : Int32) (u : Unit) => r.toInt = -3) (fun u => [(h0, .inr (3, [.ref tx, .int 0, .ref td, .ref dr, .ref nw, .ref ac, .int fa, .int an, .ref kp, .int ks, .ref sp, .ref ss, .ref sy, .int sc, .long sd, .ref tr, .ref ia])), (dr, .inr (0, [.int 0, .int 0, .ref lho, .ref lli, .ref lki, .ref lfd, .ref lfr, .ref lto, .ref lse, .ref lhl]))]) 0 0 := by
  refine begins (l := l) (y := yX3_line) (ws := wsX3_line) (av := [.ref h0]) (Qc := fun A => va_Qi (fun (r : Int32) (u : Unit) => r.toInt = -3) (fun u => Wd D cI cZ cM A ((fun u => [(h0, .inr (3, [.ref tx, .int 0, .ref td, .ref dr, .ref nw, .ref ac, .int fa, .int an, .ref kp, .int ks, .ref sp, .ref ss, .ref sy, .int sc, .long sd, .ref tr, .ref ia])), (dr, .inr (0, [.int 0, .int 0, .ref lho, .ref lli, .ref lki, .ref lfd, .ref lfr, .ref lto, .ref lse, .ref lhl]))]) u)) A) cX3_line 1 (some .int) (by decide) rfl (Nat.le_of_ble_eq_true rfl) ?_
  intro p e s m args below meth c R Q A ls hBd hR hQ hA hS hK hP hD hl
  obtain ⟨hx, hb, hr, hts, hown, hlocks, hin, hml⟩ := hBd
  have hl : lv_has ls 1 [(0, .ref h0)] := hl
  have iX3 : ∀ w ∈ wsX30, w ∈ wsX3_line := fun _ h => List.mem_cons_of_mem _ (List.mem_append_left _ (List.mem_append_left _ (List.mem_append_right _ h)))
  have iX0 : ∀ w ∈ wsX00, w ∈ wsX3_line := fun _ h => List.mem_cons_of_mem _ (List.mem_append_left _ (List.mem_append_right _ h))
  have iX1 : ∀ w ∈ wsX10, w ∈ wsX3_line := fun _ h => List.mem_cons_of_mem _ (List.mem_append_right _ h)
  refine lv_aload_n hx hb dX3_line_0 rfl (lv_at hl 0 rfl) ?_
  refine va_get (D := D) (ci := 3) (v := .ref dr) (C := RX3) (T := TX3) (N := 17) hx hb hts iX3 hown hK hP 0 rfl rfl 3 (by decide) (hts (.fieldLink RX3 24 "PunchedTicket" "draft" "LPunchedTicket$Line;") (List.mem_of_getElem? (i := 1) rfl)) (fun _ h9 => h9) rfl dX3_line_1 ?_
  refine lv_aload_n hx hb dX3_line_4 rfl (lv_at hl 0 rfl) ?_
  refine va_get (D := D) (ci := 3) (v := .ref tx) (C := RX3) (T := TX3) (N := 17) hx hb hts iX3 hown hK hP 0 rfl rfl 0 (by decide) (hts (.fieldLink RX3 9 "PunchedTicket" "text" "[I") (List.mem_of_getElem? (i := 2) rfl)) (fun _ h9 => h9) rfl dX3_line_5 ?_
  refine lv_aload_n hx hb dX3_line_8 rfl (lv_at hl 0 rfl) ?_
  refine va_get (D := D) (ci := 3) (v := .int 0) (C := RX3) (T := TX3) (N := 17) hx hb hts iX3 hown hK hP 0 rfl rfl 1 (by decide) (hts (.fieldLink RX3 13 "PunchedTicket" "letters" "I") (List.mem_of_getElem? (i := 3) rfl)) (fun _ h9 => h9) rfl dX3_line_9 ?_
  refine cV_i (As := [.ref tx, .int 0]) (rest := []) ⟨hx, hb, hml, hown, hts⟩ (c_X0_read0 l D cI cZ cM dr tx lpe ltk lho lli lki lfd lfr lto lse lhl _ ) (cwV 2 hts gX3_line_X0_read rfl rfl rfl (by decide +kernel) ⟨by rw [hR]; decide, by rw [hR]; decide⟩) hK hP hD hS hA [1] [0] rfl rfl (by decide) (by decide) (by decide) rfl 1 rfl hl.1 rfl rfl (Nat.le_of_ble_eq_true rfl) dX3_line_12 ⟨by rw [hR]; decide, by rw [hR]; decide⟩ (fun r_1 u_2 H locs hw hP hD hS => ?_)
  have hP : va_P D vwCl [(h0, .inr (3, [.ref tx, .int 0, .ref td, .ref dr, .ref nw, .ref ac, .int fa, .int an, .ref kp, .int ks, .ref sp, .ref ss, .ref sy, .int sc, .long sd, .ref tr, .ref ia])), (dr, .inr (0, [.int 0, .int 0, .ref lho, .ref lli, .ref lki, .ref lfd, .ref lfr, .ref lto, .ref lse, .ref lhl]))] H := hP.sub [0, 1] rfl
  have hD : va_D A [(h0, .inr (3, [.ref tx, .int 0, .ref td, .ref dr, .ref nw, .ref ac, .int fa, .int an, .ref kp, .int ks, .ref sp, .ref ss, .ref sy, .int sc, .long sd, .ref tr, .ref ia])), (dr, .inr (0, [.int 0, .int 0, .ref lho, .ref lli, .ref lki, .ref lfd, .ref lfr, .ref lto, .ref lse, .ref lhl]))] := hD.sub [0, 1] (by decide) rfl
  refine W.widen (k := 0) (n := 0) (Nat.le_refl _) (Nat.le_refl _) ?_
  have hw : r_1.toInt = 0 := hw
  have hw_3 := hw
  refine lv_bipush (v := (-9)) hx hb dX3_line_15 (by decide) ?_
  refine lv_icmp_eq (tgt := 23) hx hb dX3_line_17 (by decide) (fun c_4 => ?_) (fun c_4 => ?_)
  · have tc_4 := b_eq rfl (show ((-9) : Int32).toInt = -9 by decide) c_4
    exfalso; omega
  · have tc_4 := b_ne rfl (show ((-9) : Int32).toInt = -9 by decide) c_4
    refine lv_bipush (v := (-3)) hx hb dX3_line_20 (by decide) ?_
    exact ret_i (post := (fun (r : Int32) (u : Unit) => r.toInt = -3)) (W1 := (fun u => [(h0, .inr (3, [.ref tx, .int 0, .ref td, .ref dr, .ref nw, .ref ac, .int fa, .int an, .ref kp, .int ks, .ref sp, .ref ss, .ref sy, .int sc, .long sd, .ref tr, .ref ia])), (dr, .inr (0, [.int 0, .int 0, .ref lho, .ref lli, .ref lki, .ref lfd, .ref lfr, .ref lto, .ref lse, .ref lhl]))])) () hx hb hr hlocks rfl hQ hK hP hD hS ⟨by decide, by decide⟩ dX3_line_22 (show (-3 : Int) = -3 by omega)

set_option maxHeartbeats 600000 in
set_option maxRecDepth 100000 in
theorem c_X3_person0 (l : Launch) (D : va_G) (cI cZ cM : ClassId) (h0 : Nat) (n : Int32) (k : Int32) (tx : Nat) (le : Int32) (td : Nat) (dr : Nat) (nw : Nat) (ac : Nat) (fa : Int32) (an : Int32) (kp : Nat) (ks : Int32) (sp : Nat) (ss : Nat) (sy : Nat) (sc : Int32) (sd : Int64) (tr : Nat) (ia : Nat) (ltk : Int32) (lho : Nat) (lli : Nat) (lki : Nat) (lfd : Nat) (lfr : Nat) (lto : Nat) (lse : Nat) (lhl : Nat) (sz : Nat)  : Ci l yX3_person wsX3_person ({ frames := 1, cells := 0, slots := 0, locals := 21 } : Room) D cI cZ cM [.ref h0, .int n, .int k] [(h0, .inr (3, [.ref tx, .int le, .ref td, .ref dr, .ref nw, .ref ac, .int fa, .int an, .ref kp, .int ks, .ref sp, .ref ss, .ref sy, .int sc, .long sd, .ref tr, .ref ia])), (td, .inr (0, [.int 0, .int ltk, .ref lho, .ref lli, .ref lki, .ref lfd, .ref lfr, .ref lto, .ref lse, .ref lhl]))] sz (fun (r : Int32) (u : Unit) => r.toInt = -1) (fun u => [(h0, .inr (3, [.ref tx, .int le, .ref td, .ref dr, .ref nw, .ref ac, .int fa, .int an, .ref kp, .int ks, .ref sp, .ref ss, .ref sy, .int sc, .long sd, .ref tr, .ref ia])), (td, .inr (0, [.int 0, .int ltk, .ref lho, .ref lli, .ref lki, .ref lfd, .ref lfr, .ref lto, .ref lse, .ref lhl]))]) 0 0 := by
  refine begins (l := l) (y := yX3_person) (ws := wsX3_person) (av := [.ref h0, .int n, .int k]) (Qc := fun A => va_Qi (fun (r : Int32) (u : Unit) => r.toInt = -1) (fun u => Wd D cI cZ cM A ((fun u => [(h0, .inr (3, [.ref tx, .int le, .ref td, .ref dr, .ref nw, .ref ac, .int fa, .int an, .ref kp, .int ks, .ref sp, .ref ss, .ref sy, .int sc, .long sd, .ref tr, .ref ia])), (td, .inr (0, [.int 0, .int ltk, .ref lho, .ref lli, .ref lki, .ref lfd, .ref lfr, .ref lto, .ref lse, .ref lhl]))]) u)) A) cX3_person 3 (some .int) (by decide) rfl (Nat.le_of_ble_eq_true rfl) ?_
  intro p e s m args below meth c R Q A ls hBd hR hQ hA hS hK hP hD hl
  obtain ⟨hx, hb, hr, hts, hown, hlocks, hin, hml⟩ := hBd
  have hl : lv_has ls 3 [(0, .ref h0), (1, .int n), (2, .int k)] := hl
  have iX3 : ∀ w ∈ wsX30, w ∈ wsX3_person := fun _ h => List.mem_cons_of_mem _ (List.mem_append_left _ (List.mem_append_left _ (List.mem_append_left _ (List.mem_append_right _ h))))
  have iX1 : ∀ w ∈ wsX10, w ∈ wsX3_person := fun _ h => List.mem_cons_of_mem _ (List.mem_append_left _ (List.mem_append_left _ (List.mem_append_right _ h)))
  have iX0 : ∀ w ∈ wsX00, w ∈ wsX3_person := fun _ h => List.mem_cons_of_mem _ (List.mem_append_left _ (List.mem_append_right _ h))
  have iX2 : ∀ w ∈ wsX20, w ∈ wsX3_person := fun _ h => List.mem_cons_of_mem _ (List.mem_append_right _ h)
  refine lv_aload_n hx hb dX3_person_0 rfl (lv_at hl 0 rfl) ?_
  refine va_get (D := D) (ci := 3) (v := .ref td) (C := RX3) (T := TX3) (N := 17) hx hb hts iX3 hown hK hP 0 rfl rfl 2 (by decide) (hts (.fieldLink RX3 20 "PunchedTicket" "told" "LPunchedTicket$Line;") (List.mem_of_getElem? (i := 1) rfl)) (fun _ h9 => h9) rfl dX3_person_1 ?_
  refine lv_iload_n hx hb dX3_person_4 rfl (lv_at hl 1 rfl) ?_
  refine cV_i (As := [.int n]) (rest := []) ⟨hx, hb, hml, hown, hts⟩ (c_X0_hasPerson l D cI cZ cM td n 0 ltk lho lli lki lfd lfr lto lse lhl _ ) (cwV 1 hts gX3_person_X0_hasPerson rfl rfl rfl (by decide +kernel) ⟨by rw [hR]; decide, by rw [hR]; decide⟩) hK hP hD hS hA [1] [0] rfl rfl (by decide) (by decide) (by decide) rfl 1 rfl hl.1 rfl rfl (Nat.le_of_ble_eq_true rfl) dX3_person_5 ⟨by rw [hR]; decide, by rw [hR]; decide⟩ (fun r_1 u_2 H locs hw hP hD hS => ?_)
  have hP : va_P D vwCl [(h0, .inr (3, [.ref tx, .int le, .ref td, .ref dr, .ref nw, .ref ac, .int fa, .int an, .ref kp, .int ks, .ref sp, .ref ss, .ref sy, .int sc, .long sd, .ref tr, .ref ia])), (td, .inr (0, [.int 0, .int ltk, .ref lho, .ref lli, .ref lki, .ref lfd, .ref lfr, .ref lto, .ref lse, .ref lhl]))] H := hP.sub [0, 1] rfl
  have hD : va_D A [(h0, .inr (3, [.ref tx, .int le, .ref td, .ref dr, .ref nw, .ref ac, .int fa, .int an, .ref kp, .int ks, .ref sp, .ref ss, .ref sy, .int sc, .long sd, .ref tr, .ref ia])), (td, .inr (0, [.int 0, .int ltk, .ref lho, .ref lli, .ref lki, .ref lfd, .ref lfr, .ref lto, .ref lse, .ref lhl]))] := hD.sub [0, 1] (by decide) rfl
  refine W.widen (k := 0) (n := 0) (Nat.le_refl _) (Nat.le_refl _) ?_
  have hw : (r_1.toInt = 1 ∧ 0 ≤ n.toInt ∧ n.toInt < (0 : Int)) ∨ (r_1.toInt = 0 ∧ (n.toInt < 0 ∨ (0 : Int) ≤ n.toInt)) := hw
  have hw_3 := hw
  refine lv_if_ne (tgt := 13) hx hb dX3_person_8 (by decide) (fun c_4 => ?_) (fun c_4 => ?_)
  · have tc_4 := b_ne rfl (show (0 : Int32).toInt = 0 by decide) c_4
    exfalso; omega
  · have tc_4 := b_eq rfl (show (0 : Int32).toInt = 0 by decide) c_4
    refine lv_iconst (v := (-1)) hx hb dX3_person_11 (by decide) ?_
    exact ret_i (post := (fun (r : Int32) (u : Unit) => r.toInt = -1)) (W1 := (fun u => [(h0, .inr (3, [.ref tx, .int le, .ref td, .ref dr, .ref nw, .ref ac, .int fa, .int an, .ref kp, .int ks, .ref sp, .ref ss, .ref sy, .int sc, .long sd, .ref tr, .ref ia])), (td, .inr (0, [.int 0, .int ltk, .ref lho, .ref lli, .ref lki, .ref lfd, .ref lfr, .ref lto, .ref lse, .ref lhl]))])) () hx hb hr hlocks rfl hQ hK hP hD hS ⟨by decide, by decide⟩ dX3_person_12 (show (-1 : Int) = -1 by omega)

set_option maxHeartbeats 600000 in
set_option maxRecDepth 100000 in
theorem c_X3_where0 (l : Launch) (D : va_G) (cI cZ cM : ClassId) (h0 : Nat) (n : Int32) (k : Int32) (tx : Nat) (le : Int32) (td : Nat) (dr : Nat) (nw : Nat) (ac : Nat) (fa : Int32) (an : Int32) (kp : Nat) (ks : Int32) (sp : Nat) (ss : Nat) (sy : Nat) (sc : Int32) (sd : Int64) (tr : Nat) (ia : Nat) (ltk : Int32) (lho : Nat) (lli : Nat) (lki : Nat) (lfd : Nat) (lfr : Nat) (lto : Nat) (lse : Nat) (lhl : Nat) (sz : Nat)  : Ci l yX3_where wsX3_where ({ frames := 1, cells := 0, slots := 0, locals := 21 } : Room) D cI cZ cM [.ref h0, .int n, .int k] [(h0, .inr (3, [.ref tx, .int le, .ref td, .ref dr, .ref nw, .ref ac, .int fa, .int an, .ref kp, .int ks, .ref sp, .ref ss, .ref sy, .int sc, .long sd, .ref tr, .ref ia])), (td, .inr (0, [.int 0, .int ltk, .ref lho, .ref lli, .ref lki, .ref lfd, .ref lfr, .ref lto, .ref lse, .ref lhl]))] sz (fun (r : Int32) (u : Unit) => r.toInt = -1) (fun u => [(h0, .inr (3, [.ref tx, .int le, .ref td, .ref dr, .ref nw, .ref ac, .int fa, .int an, .ref kp, .int ks, .ref sp, .ref ss, .ref sy, .int sc, .long sd, .ref tr, .ref ia])), (td, .inr (0, [.int 0, .int ltk, .ref lho, .ref lli, .ref lki, .ref lfd, .ref lfr, .ref lto, .ref lse, .ref lhl]))]) 0 0 := by
  refine begins (l := l) (y := yX3_where) (ws := wsX3_where) (av := [.ref h0, .int n, .int k]) (Qc := fun A => va_Qi (fun (r : Int32) (u : Unit) => r.toInt = -1) (fun u => Wd D cI cZ cM A ((fun u => [(h0, .inr (3, [.ref tx, .int le, .ref td, .ref dr, .ref nw, .ref ac, .int fa, .int an, .ref kp, .int ks, .ref sp, .ref ss, .ref sy, .int sc, .long sd, .ref tr, .ref ia])), (td, .inr (0, [.int 0, .int ltk, .ref lho, .ref lli, .ref lki, .ref lfd, .ref lfr, .ref lto, .ref lse, .ref lhl]))]) u)) A) cX3_where 3 (some .int) (by decide) rfl (Nat.le_of_ble_eq_true rfl) ?_
  intro p e s m args below meth c R Q A ls hBd hR hQ hA hS hK hP hD hl
  obtain ⟨hx, hb, hr, hts, hown, hlocks, hin, hml⟩ := hBd
  have hl : lv_has ls 3 [(0, .ref h0), (1, .int n), (2, .int k)] := hl
  have iX3 : ∀ w ∈ wsX30, w ∈ wsX3_where := fun _ h => List.mem_cons_of_mem _ (List.mem_append_left _ (List.mem_append_left _ (List.mem_append_left _ (List.mem_append_right _ h))))
  have iX1 : ∀ w ∈ wsX10, w ∈ wsX3_where := fun _ h => List.mem_cons_of_mem _ (List.mem_append_left _ (List.mem_append_left _ (List.mem_append_right _ h)))
  have iX2 : ∀ w ∈ wsX20, w ∈ wsX3_where := fun _ h => List.mem_cons_of_mem _ (List.mem_append_left _ (List.mem_append_right _ h))
  have iX0 : ∀ w ∈ wsX00, w ∈ wsX3_where := fun _ h => List.mem_cons_of_mem _ (List.mem_append_right _ h)
  refine lv_aload_n hx hb dX3_where_0 rfl (lv_at hl 0 rfl) ?_
  refine va_get (D := D) (ci := 3) (v := .ref td) (C := RX3) (T := TX3) (N := 17) hx hb hts iX3 hown hK hP 0 rfl rfl 2 (by decide) (hts (.fieldLink RX3 20 "PunchedTicket" "told" "LPunchedTicket$Line;") (List.mem_of_getElem? (i := 1) rfl)) (fun _ h9 => h9) rfl dX3_where_1 ?_
  refine lv_iload_n hx hb dX3_where_4 rfl (lv_at hl 1 rfl) ?_
  refine cV_i (As := [.int n]) (rest := []) ⟨hx, hb, hml, hown, hts⟩ (c_X0_hasPerson l D cI cZ cM td n 0 ltk lho lli lki lfd lfr lto lse lhl _ ) (cwV 1 hts gX3_where_X0_hasPerson rfl rfl rfl (by decide +kernel) ⟨by rw [hR]; decide, by rw [hR]; decide⟩) hK hP hD hS hA [1] [0] rfl rfl (by decide) (by decide) (by decide) rfl 1 rfl hl.1 rfl rfl (Nat.le_of_ble_eq_true rfl) dX3_where_5 ⟨by rw [hR]; decide, by rw [hR]; decide⟩ (fun r_1 u_2 H locs hw hP hD hS => ?_)
  have hP : va_P D vwCl [(h0, .inr (3, [.ref tx, .int le, .ref td, .ref dr, .ref nw, .ref ac, .int fa, .int an, .ref kp, .int ks, .ref sp, .ref ss, .ref sy, .int sc, .long sd, .ref tr, .ref ia])), (td, .inr (0, [.int 0, .int ltk, .ref lho, .ref lli, .ref lki, .ref lfd, .ref lfr, .ref lto, .ref lse, .ref lhl]))] H := hP.sub [0, 1] rfl
  have hD : va_D A [(h0, .inr (3, [.ref tx, .int le, .ref td, .ref dr, .ref nw, .ref ac, .int fa, .int an, .ref kp, .int ks, .ref sp, .ref ss, .ref sy, .int sc, .long sd, .ref tr, .ref ia])), (td, .inr (0, [.int 0, .int ltk, .ref lho, .ref lli, .ref lki, .ref lfd, .ref lfr, .ref lto, .ref lse, .ref lhl]))] := hD.sub [0, 1] (by decide) rfl
  refine W.widen (k := 0) (n := 0) (Nat.le_refl _) (Nat.le_refl _) ?_
  have hw : (r_1.toInt = 1 ∧ 0 ≤ n.toInt ∧ n.toInt < (0 : Int)) ∨ (r_1.toInt = 0 ∧ (n.toInt < 0 ∨ (0 : Int) ≤ n.toInt)) := hw
  have hw_3 := hw
  refine lv_if_ne (tgt := 13) hx hb dX3_where_8 (by decide) (fun c_4 => ?_) (fun c_4 => ?_)
  · have tc_4 := b_ne rfl (show (0 : Int32).toInt = 0 by decide) c_4
    exfalso; omega
  · have tc_4 := b_eq rfl (show (0 : Int32).toInt = 0 by decide) c_4
    refine lv_iconst (v := (-1)) hx hb dX3_where_11 (by decide) ?_
    exact ret_i (post := (fun (r : Int32) (u : Unit) => r.toInt = -1)) (W1 := (fun u => [(h0, .inr (3, [.ref tx, .int le, .ref td, .ref dr, .ref nw, .ref ac, .int fa, .int an, .ref kp, .int ks, .ref sp, .ref ss, .ref sy, .int sc, .long sd, .ref tr, .ref ia])), (td, .inr (0, [.int 0, .int ltk, .ref lho, .ref lli, .ref lki, .ref lfd, .ref lfr, .ref lto, .ref lse, .ref lhl]))])) () hx hb hr hlocks rfl hQ hK hP hD hS ⟨by decide, by decide⟩ dX3_where_12 (show (-1 : Int) = -1 by omega)

set_option maxHeartbeats 600000 in
set_option maxRecDepth 100000 in
theorem c_X3_blank0 (l : Launch) (D : va_G) (cI cZ cM : ClassId) (h0 : Nat) (n : Int32) (k : Int32) (tx : Nat) (le : Int32) (td : Nat) (dr : Nat) (nw : Nat) (ac : Nat) (fa : Int32) (an : Int32) (kp : Nat) (ks : Int32) (sp : Nat) (ss : Nat) (sy : Nat) (sc : Int32) (sd : Int64) (tr : Nat) (ia : Nat) (ltk : Int32) (lho : Nat) (lli : Nat) (lki : Nat) (lfd : Nat) (lfr : Nat) (lto : Nat) (lse : Nat) (lhl : Nat) (sz : Nat)  : Ci l yX3_blank wsX3_blank ({ frames := 1, cells := 0, slots := 0, locals := 21 } : Room) D cI cZ cM [.ref h0, .int n, .int k] [(h0, .inr (3, [.ref tx, .int le, .ref td, .ref dr, .ref nw, .ref ac, .int fa, .int an, .ref kp, .int ks, .ref sp, .ref ss, .ref sy, .int sc, .long sd, .ref tr, .ref ia])), (td, .inr (0, [.int 0, .int ltk, .ref lho, .ref lli, .ref lki, .ref lfd, .ref lfr, .ref lto, .ref lse, .ref lhl]))] sz (fun (r : Int32) (u : Unit) => r.toInt = -1) (fun u => [(h0, .inr (3, [.ref tx, .int le, .ref td, .ref dr, .ref nw, .ref ac, .int fa, .int an, .ref kp, .int ks, .ref sp, .ref ss, .ref sy, .int sc, .long sd, .ref tr, .ref ia])), (td, .inr (0, [.int 0, .int ltk, .ref lho, .ref lli, .ref lki, .ref lfd, .ref lfr, .ref lto, .ref lse, .ref lhl]))]) 0 0 := by
  refine begins (l := l) (y := yX3_blank) (ws := wsX3_blank) (av := [.ref h0, .int n, .int k]) (Qc := fun A => va_Qi (fun (r : Int32) (u : Unit) => r.toInt = -1) (fun u => Wd D cI cZ cM A ((fun u => [(h0, .inr (3, [.ref tx, .int le, .ref td, .ref dr, .ref nw, .ref ac, .int fa, .int an, .ref kp, .int ks, .ref sp, .ref ss, .ref sy, .int sc, .long sd, .ref tr, .ref ia])), (td, .inr (0, [.int 0, .int ltk, .ref lho, .ref lli, .ref lki, .ref lfd, .ref lfr, .ref lto, .ref lse, .ref lhl]))]) u)) A) cX3_blank 7 (some .int) (by decide) rfl (Nat.le_of_ble_eq_true rfl) ?_
  intro p e s m args below meth c R Q A ls hBd hR hQ hA hS hK hP hD hl
  obtain ⟨hx, hb, hr, hts, hown, hlocks, hin, hml⟩ := hBd
  have hl : lv_has ls 7 [(0, .ref h0), (1, .int n), (2, .int k)] := hl
  have iX3 : ∀ w ∈ wsX30, w ∈ wsX3_blank := fun _ h => List.mem_cons_of_mem _ (List.mem_append_left _ (List.mem_append_left _ (List.mem_append_left _ (List.mem_append_right _ h))))
  have iX0 : ∀ w ∈ wsX00, w ∈ wsX3_blank := fun _ h => List.mem_cons_of_mem _ (List.mem_append_left _ (List.mem_append_left _ (List.mem_append_right _ h)))
  have iX1 : ∀ w ∈ wsX10, w ∈ wsX3_blank := fun _ h => List.mem_cons_of_mem _ (List.mem_append_left _ (List.mem_append_right _ h))
  have iX2 : ∀ w ∈ wsX20, w ∈ wsX3_blank := fun _ h => List.mem_cons_of_mem _ (List.mem_append_right _ h)
  refine lv_aload_n hx hb dX3_blank_0 rfl (lv_at hl 0 rfl) ?_
  refine va_get (D := D) (ci := 3) (v := .ref td) (C := RX3) (T := TX3) (N := 17) hx hb hts iX3 hown hK hP 0 rfl rfl 2 (by decide) (hts (.fieldLink RX3 20 "PunchedTicket" "told" "LPunchedTicket$Line;") (List.mem_of_getElem? (i := 1) rfl)) (fun _ h9 => h9) rfl dX3_blank_1 ?_
  refine lv_iload_n hx hb dX3_blank_4 rfl (lv_at hl 1 rfl) ?_
  refine cV_i (As := [.int n]) (rest := []) ⟨hx, hb, hml, hown, hts⟩ (c_X0_hasPerson l D cI cZ cM td n 0 ltk lho lli lki lfd lfr lto lse lhl _ ) (cwV 1 hts gX3_blank_X0_hasPerson rfl rfl rfl (by decide +kernel) ⟨by rw [hR]; decide, by rw [hR]; decide⟩) hK hP hD hS hA [1] [0] rfl rfl (by decide) (by decide) (by decide) rfl 1 rfl hl.1 rfl rfl (Nat.le_of_ble_eq_true rfl) dX3_blank_5 ⟨by rw [hR]; decide, by rw [hR]; decide⟩ (fun r_1 u_2 H locs hw hP hD hS => ?_)
  have hP : va_P D vwCl [(h0, .inr (3, [.ref tx, .int le, .ref td, .ref dr, .ref nw, .ref ac, .int fa, .int an, .ref kp, .int ks, .ref sp, .ref ss, .ref sy, .int sc, .long sd, .ref tr, .ref ia])), (td, .inr (0, [.int 0, .int ltk, .ref lho, .ref lli, .ref lki, .ref lfd, .ref lfr, .ref lto, .ref lse, .ref lhl]))] H := hP.sub [0, 1] rfl
  have hD : va_D A [(h0, .inr (3, [.ref tx, .int le, .ref td, .ref dr, .ref nw, .ref ac, .int fa, .int an, .ref kp, .int ks, .ref sp, .ref ss, .ref sy, .int sc, .long sd, .ref tr, .ref ia])), (td, .inr (0, [.int 0, .int ltk, .ref lho, .ref lli, .ref lki, .ref lfd, .ref lfr, .ref lto, .ref lse, .ref lhl]))] := hD.sub [0, 1] (by decide) rfl
  refine W.widen (k := 0) (n := 0) (Nat.le_refl _) (Nat.le_refl _) ?_
  have hw : (r_1.toInt = 1 ∧ 0 ≤ n.toInt ∧ n.toInt < (0 : Int)) ∨ (r_1.toInt = 0 ∧ (n.toInt < 0 ∨ (0 : Int) ≤ n.toInt)) := hw
  have hw_3 := hw
  refine lv_if_ne (tgt := 13) hx hb dX3_blank_8 (by decide) (fun c_4 => ?_) (fun c_4 => ?_)
  · have tc_4 := b_ne rfl (show (0 : Int32).toInt = 0 by decide) c_4
    exfalso; omega
  · have tc_4 := b_eq rfl (show (0 : Int32).toInt = 0 by decide) c_4
    refine lv_iconst (v := (-1)) hx hb dX3_blank_11 (by decide) ?_
    exact ret_i (post := (fun (r : Int32) (u : Unit) => r.toInt = -1)) (W1 := (fun u => [(h0, .inr (3, [.ref tx, .int le, .ref td, .ref dr, .ref nw, .ref ac, .int fa, .int an, .ref kp, .int ks, .ref sp, .ref ss, .ref sy, .int sc, .long sd, .ref tr, .ref ia])), (td, .inr (0, [.int 0, .int ltk, .ref lho, .ref lli, .ref lki, .ref lfd, .ref lfr, .ref lto, .ref lse, .ref lhl]))])) () hx hb hr hlocks rfl hQ hK hP hD hS ⟨by decide, by decide⟩ dX3_blank_12 (show (-1 : Int) = -1 by omega)

set_option maxHeartbeats 600000 in
set_option maxRecDepth 100000 in
theorem c_X3_see0 (l : Launch) (D : va_G) (cI cZ cM : ClassId) (h0 : Nat) (n : Int32) (k : Int32) (j : Int32) (tx : Nat) (le : Int32) (td : Nat) (dr : Nat) (nw : Nat) (ac : Nat) (fa : Int32) (an : Int32) (kp : Nat) (ks : Int32) (sp : Nat) (ss : Nat) (sy : Nat) (sc : Int32) (sd : Int64) (tr : Nat) (ia : Nat) (ltk : Int32) (lho : Nat) (lli : Nat) (lki : Nat) (lfd : Nat) (lfr : Nat) (lto : Nat) (lse : Nat) (lhl : Nat) (sz : Nat)  : Ci l yX3_see wsX3_see ({ frames := 1, cells := 0, slots := 0, locals := 21 } : Room) D cI cZ cM [.ref h0, .int n, .int k, .int j] [(h0, .inr (3, [.ref tx, .int le, .ref td, .ref dr, .ref nw, .ref ac, .int fa, .int an, .ref kp, .int ks, .ref sp, .ref ss, .ref sy, .int sc, .long sd, .ref tr, .ref ia])), (td, .inr (0, [.int 0, .int ltk, .ref lho, .ref lli, .ref lki, .ref lfd, .ref lfr, .ref lto, .ref lse, .ref lhl]))] sz (fun (r : Int32) (u : Unit) => r.toInt = -1) (fun u => [(h0, .inr (3, [.ref tx, .int le, .ref td, .ref dr, .ref nw, .ref ac, .int fa, .int an, .ref kp, .int ks, .ref sp, .ref ss, .ref sy, .int sc, .long sd, .ref tr, .ref ia])), (td, .inr (0, [.int 0, .int ltk, .ref lho, .ref lli, .ref lki, .ref lfd, .ref lfr, .ref lto, .ref lse, .ref lhl]))]) 0 0 := by
  refine begins (l := l) (y := yX3_see) (ws := wsX3_see) (av := [.ref h0, .int n, .int k, .int j]) (Qc := fun A => va_Qi (fun (r : Int32) (u : Unit) => r.toInt = -1) (fun u => Wd D cI cZ cM A ((fun u => [(h0, .inr (3, [.ref tx, .int le, .ref td, .ref dr, .ref nw, .ref ac, .int fa, .int an, .ref kp, .int ks, .ref sp, .ref ss, .ref sy, .int sc, .long sd, .ref tr, .ref ia])), (td, .inr (0, [.int 0, .int ltk, .ref lho, .ref lli, .ref lki, .ref lfd, .ref lfr, .ref lto, .ref lse, .ref lhl]))]) u)) A) cX3_see 4 (some .int) (by decide) rfl (Nat.le_of_ble_eq_true rfl) ?_
  intro p e s m args below meth c R Q A ls hBd hR hQ hA hS hK hP hD hl
  obtain ⟨hx, hb, hr, hts, hown, hlocks, hin, hml⟩ := hBd
  have hl : lv_has ls 4 [(0, .ref h0), (1, .int n), (2, .int k), (3, .int j)] := hl
  have iX3 : ∀ w ∈ wsX30, w ∈ wsX3_see := fun _ h => List.mem_cons_of_mem _ (List.mem_append_left _ (List.mem_append_right _ h))
  have iX0 : ∀ w ∈ wsX00, w ∈ wsX3_see := fun _ h => List.mem_cons_of_mem _ (List.mem_append_right _ h)
  refine lv_aload_n hx hb dX3_see_0 rfl (lv_at hl 0 rfl) ?_
  refine va_get (D := D) (ci := 3) (v := .ref td) (C := RX3) (T := TX3) (N := 17) hx hb hts iX3 hown hK hP 0 rfl rfl 2 (by decide) (hts (.fieldLink RX3 20 "PunchedTicket" "told" "LPunchedTicket$Line;") (List.mem_of_getElem? (i := 1) rfl)) (fun _ h9 => h9) rfl dX3_see_1 ?_
  refine lv_iload_n hx hb dX3_see_4 rfl (lv_at hl 1 rfl) ?_
  refine cV_i (As := [.int n]) (rest := []) ⟨hx, hb, hml, hown, hts⟩ (c_X0_hasPerson l D cI cZ cM td n 0 ltk lho lli lki lfd lfr lto lse lhl _ ) (cwV 1 hts gX3_see_X0_hasPerson rfl rfl rfl (by decide +kernel) ⟨by rw [hR]; decide, by rw [hR]; decide⟩) hK hP hD hS hA [1] [0] rfl rfl (by decide) (by decide) (by decide) rfl 1 rfl hl.1 rfl rfl (Nat.le_of_ble_eq_true rfl) dX3_see_5 ⟨by rw [hR]; decide, by rw [hR]; decide⟩ (fun r_1 u_2 H locs hw hP hD hS => ?_)
  have hP : va_P D vwCl [(h0, .inr (3, [.ref tx, .int le, .ref td, .ref dr, .ref nw, .ref ac, .int fa, .int an, .ref kp, .int ks, .ref sp, .ref ss, .ref sy, .int sc, .long sd, .ref tr, .ref ia])), (td, .inr (0, [.int 0, .int ltk, .ref lho, .ref lli, .ref lki, .ref lfd, .ref lfr, .ref lto, .ref lse, .ref lhl]))] H := hP.sub [0, 1] rfl
  have hD : va_D A [(h0, .inr (3, [.ref tx, .int le, .ref td, .ref dr, .ref nw, .ref ac, .int fa, .int an, .ref kp, .int ks, .ref sp, .ref ss, .ref sy, .int sc, .long sd, .ref tr, .ref ia])), (td, .inr (0, [.int 0, .int ltk, .ref lho, .ref lli, .ref lki, .ref lfd, .ref lfr, .ref lto, .ref lse, .ref lhl]))] := hD.sub [0, 1] (by decide) rfl
  refine W.widen (k := 0) (n := 0) (Nat.le_refl _) (Nat.le_refl _) ?_
  have hw : (r_1.toInt = 1 ∧ 0 ≤ n.toInt ∧ n.toInt < (0 : Int)) ∨ (r_1.toInt = 0 ∧ (n.toInt < 0 ∨ (0 : Int) ≤ n.toInt)) := hw
  have hw_3 := hw
  refine lv_if_ne (tgt := 13) hx hb dX3_see_8 (by decide) (fun c_4 => ?_) (fun c_4 => ?_)
  · have tc_4 := b_ne rfl (show (0 : Int32).toInt = 0 by decide) c_4
    exfalso; omega
  · have tc_4 := b_eq rfl (show (0 : Int32).toInt = 0 by decide) c_4
    refine lv_iconst (v := (-1)) hx hb dX3_see_11 (by decide) ?_
    exact ret_i (post := (fun (r : Int32) (u : Unit) => r.toInt = -1)) (W1 := (fun u => [(h0, .inr (3, [.ref tx, .int le, .ref td, .ref dr, .ref nw, .ref ac, .int fa, .int an, .ref kp, .int ks, .ref sp, .ref ss, .ref sy, .int sc, .long sd, .ref tr, .ref ia])), (td, .inr (0, [.int 0, .int ltk, .ref lho, .ref lli, .ref lki, .ref lfd, .ref lfr, .ref lto, .ref lse, .ref lhl]))])) () hx hb hr hlocks rfl hQ hK hP hD hS ⟨by decide, by decide⟩ dX3_see_12 (show (-1 : Int) = -1 by omega)

set_option maxHeartbeats 600000 in
set_option maxRecDepth 100000 in
theorem c_X3_losses0 (l : Launch) (D : va_G) (cI cZ cM : ClassId) (h0 : Nat) (n : Int32) (k : Int32) (j : Int32) (z : Int32) (tx : Nat) (le : Int32) (td : Nat) (dr : Nat) (nw : Nat) (ac : Nat) (fa : Int32) (an : Int32) (kp : Nat) (ks : Int32) (sp : Nat) (ss : Nat) (sy : Nat) (sc : Int32) (sd : Int64) (tr : Nat) (ia : Nat) (ltk : Int32) (lho : Nat) (lli : Nat) (lki : Nat) (lfd : Nat) (lfr : Nat) (lto : Nat) (lse : Nat) (lhl : Nat) (sz : Nat)  : Ci l yX3_losses wsX3_losses ({ frames := 1, cells := 0, slots := 0, locals := 21 } : Room) D cI cZ cM [.ref h0, .int n, .int k, .int j, .int z] [(h0, .inr (3, [.ref tx, .int le, .ref td, .ref dr, .ref nw, .ref ac, .int fa, .int an, .ref kp, .int ks, .ref sp, .ref ss, .ref sy, .int sc, .long sd, .ref tr, .ref ia])), (td, .inr (0, [.int 0, .int ltk, .ref lho, .ref lli, .ref lki, .ref lfd, .ref lfr, .ref lto, .ref lse, .ref lhl]))] sz (fun (r : Int32) (u : Unit) => r.toInt = -1) (fun u => [(h0, .inr (3, [.ref tx, .int le, .ref td, .ref dr, .ref nw, .ref ac, .int fa, .int an, .ref kp, .int ks, .ref sp, .ref ss, .ref sy, .int sc, .long sd, .ref tr, .ref ia])), (td, .inr (0, [.int 0, .int ltk, .ref lho, .ref lli, .ref lki, .ref lfd, .ref lfr, .ref lto, .ref lse, .ref lhl]))]) 0 0 := by
  refine begins (l := l) (y := yX3_losses) (ws := wsX3_losses) (av := [.ref h0, .int n, .int k, .int j, .int z]) (Qc := fun A => va_Qi (fun (r : Int32) (u : Unit) => r.toInt = -1) (fun u => Wd D cI cZ cM A ((fun u => [(h0, .inr (3, [.ref tx, .int le, .ref td, .ref dr, .ref nw, .ref ac, .int fa, .int an, .ref kp, .int ks, .ref sp, .ref ss, .ref sy, .int sc, .long sd, .ref tr, .ref ia])), (td, .inr (0, [.int 0, .int ltk, .ref lho, .ref lli, .ref lki, .ref lfd, .ref lfr, .ref lto, .ref lse, .ref lhl]))]) u)) A) cX3_losses 11 (some .int) (by decide) rfl (Nat.le_of_ble_eq_true rfl) ?_
  intro p e s m args below meth c R Q A ls hBd hR hQ hA hS hK hP hD hl
  obtain ⟨hx, hb, hr, hts, hown, hlocks, hin, hml⟩ := hBd
  have hl : lv_has ls 11 [(0, .ref h0), (1, .int n), (2, .int k), (3, .int j), (4, .int z)] := hl
  have iX3 : ∀ w ∈ wsX30, w ∈ wsX3_losses := fun _ h => List.mem_cons_of_mem _ (List.mem_append_left _ (List.mem_append_left _ (List.mem_append_left _ (List.mem_append_right _ h))))
  have iX0 : ∀ w ∈ wsX00, w ∈ wsX3_losses := fun _ h => List.mem_cons_of_mem _ (List.mem_append_left _ (List.mem_append_left _ (List.mem_append_right _ h)))
  have iX1 : ∀ w ∈ wsX10, w ∈ wsX3_losses := fun _ h => List.mem_cons_of_mem _ (List.mem_append_left _ (List.mem_append_right _ h))
  have iX2 : ∀ w ∈ wsX20, w ∈ wsX3_losses := fun _ h => List.mem_cons_of_mem _ (List.mem_append_right _ h)
  refine lv_aload_n hx hb dX3_losses_0 rfl (lv_at hl 0 rfl) ?_
  refine va_get (D := D) (ci := 3) (v := .ref td) (C := RX3) (T := TX3) (N := 17) hx hb hts iX3 hown hK hP 0 rfl rfl 2 (by decide) (hts (.fieldLink RX3 20 "PunchedTicket" "told" "LPunchedTicket$Line;") (List.mem_of_getElem? (i := 1) rfl)) (fun _ h9 => h9) rfl dX3_losses_1 ?_
  refine lv_iload_n hx hb dX3_losses_4 rfl (lv_at hl 1 rfl) ?_
  refine cV_i (As := [.int n]) (rest := []) ⟨hx, hb, hml, hown, hts⟩ (c_X0_hasPerson l D cI cZ cM td n 0 ltk lho lli lki lfd lfr lto lse lhl _ ) (cwV 1 hts gX3_losses_X0_hasPerson rfl rfl rfl (by decide +kernel) ⟨by rw [hR]; decide, by rw [hR]; decide⟩) hK hP hD hS hA [1] [0] rfl rfl (by decide) (by decide) (by decide) rfl 1 rfl hl.1 rfl rfl (Nat.le_of_ble_eq_true rfl) dX3_losses_5 ⟨by rw [hR]; decide, by rw [hR]; decide⟩ (fun r_1 u_2 H locs hw hP hD hS => ?_)
  have hP : va_P D vwCl [(h0, .inr (3, [.ref tx, .int le, .ref td, .ref dr, .ref nw, .ref ac, .int fa, .int an, .ref kp, .int ks, .ref sp, .ref ss, .ref sy, .int sc, .long sd, .ref tr, .ref ia])), (td, .inr (0, [.int 0, .int ltk, .ref lho, .ref lli, .ref lki, .ref lfd, .ref lfr, .ref lto, .ref lse, .ref lhl]))] H := hP.sub [0, 1] rfl
  have hD : va_D A [(h0, .inr (3, [.ref tx, .int le, .ref td, .ref dr, .ref nw, .ref ac, .int fa, .int an, .ref kp, .int ks, .ref sp, .ref ss, .ref sy, .int sc, .long sd, .ref tr, .ref ia])), (td, .inr (0, [.int 0, .int ltk, .ref lho, .ref lli, .ref lki, .ref lfd, .ref lfr, .ref lto, .ref lse, .ref lhl]))] := hD.sub [0, 1] (by decide) rfl
  refine W.widen (k := 0) (n := 0) (Nat.le_refl _) (Nat.le_refl _) ?_
  have hw : (r_1.toInt = 1 ∧ 0 ≤ n.toInt ∧ n.toInt < (0 : Int)) ∨ (r_1.toInt = 0 ∧ (n.toInt < 0 ∨ (0 : Int) ≤ n.toInt)) := hw
  have hw_3 := hw
  refine lv_if_ne (tgt := 13) hx hb dX3_losses_8 (by decide) (fun c_4 => ?_) (fun c_4 => ?_)
  · have tc_4 := b_ne rfl (show (0 : Int32).toInt = 0 by decide) c_4
    exfalso; omega
  · have tc_4 := b_eq rfl (show (0 : Int32).toInt = 0 by decide) c_4
    refine lv_iconst (v := (-1)) hx hb dX3_losses_11 (by decide) ?_
    exact ret_i (post := (fun (r : Int32) (u : Unit) => r.toInt = -1)) (W1 := (fun u => [(h0, .inr (3, [.ref tx, .int le, .ref td, .ref dr, .ref nw, .ref ac, .int fa, .int an, .ref kp, .int ks, .ref sp, .ref ss, .ref sy, .int sc, .long sd, .ref tr, .ref ia])), (td, .inr (0, [.int 0, .int ltk, .ref lho, .ref lli, .ref lki, .ref lfd, .ref lfr, .ref lto, .ref lse, .ref lhl]))])) () hx hb hr hlocks rfl hQ hK hP hD hS ⟨by decide, by decide⟩ dX3_losses_12 (show (-1 : Int) = -1 by omega)

set_option maxHeartbeats 600000 in
set_option maxRecDepth 100000 in
theorem c_X3_ticket0 (l : Launch) (D : va_G) (cI cZ cM : ClassId) (h0 : Nat) (n : Int32) (k : Int32) (tx : Nat) (le : Int32) (td : Nat) (dr : Nat) (nw : Nat) (ac : Nat) (fa : Int32) (an : Int32) (kp : Nat) (ks : Int32) (sp : Nat) (ss : Nat) (sy : Nat) (sc : Int32) (sd : Int64) (tr : Nat) (ia : Nat) (ln : Nat) (md : Int32) (mr : Int32) (mg : Int32) (mat : Nat) (mfd : Nat) (mhd : Nat) (sz : Nat)  : Ci l yX3_ticket wsX3_ticket ({ frames := 1, cells := 0, slots := 0, locals := 21 } : Room) D cI cZ cM [.ref h0, .int n, .int k] [(h0, .inr (3, [.ref tx, .int le, .ref td, .ref dr, .ref nw, .ref ac, .int fa, .int an, .ref kp, .int ks, .ref sp, .ref ss, .ref sy, .int sc, .long sd, .ref tr, .ref ia])), (nw, .inr (1, [.ref ln, .int md, .int 0, .int mr, .int mg, .ref mat, .ref mfd, .ref mhd]))] sz (fun (r : Int32) (u : Unit) => r.toInt = -1) (fun u => [(h0, .inr (3, [.ref tx, .int le, .ref td, .ref dr, .ref nw, .ref ac, .int fa, .int an, .ref kp, .int ks, .ref sp, .ref ss, .ref sy, .int sc, .long sd, .ref tr, .ref ia])), (nw, .inr (1, [.ref ln, .int md, .int 0, .int mr, .int mg, .ref mat, .ref mfd, .ref mhd]))]) 0 0 := by
  refine begins (l := l) (y := yX3_ticket) (ws := wsX3_ticket) (av := [.ref h0, .int n, .int k]) (Qc := fun A => va_Qi (fun (r : Int32) (u : Unit) => r.toInt = -1) (fun u => Wd D cI cZ cM A ((fun u => [(h0, .inr (3, [.ref tx, .int le, .ref td, .ref dr, .ref nw, .ref ac, .int fa, .int an, .ref kp, .int ks, .ref sp, .ref ss, .ref sy, .int sc, .long sd, .ref tr, .ref ia])), (nw, .inr (1, [.ref ln, .int md, .int 0, .int mr, .int mg, .ref mat, .ref mfd, .ref mhd]))]) u)) A) cX3_ticket 3 (some .int) (by decide) rfl (Nat.le_of_ble_eq_true rfl) ?_
  intro p e s m args below meth c R Q A ls hBd hR hQ hA hS hK hP hD hl
  obtain ⟨hx, hb, hr, hts, hown, hlocks, hin, hml⟩ := hBd
  have hl : lv_has ls 3 [(0, .ref h0), (1, .int n), (2, .int k)] := hl
  have iX3 : ∀ w ∈ wsX30, w ∈ wsX3_ticket := fun _ h => List.mem_cons_of_mem _ (List.mem_append_left _ (List.mem_append_left _ (List.mem_append_right _ h)))
  have iX1 : ∀ w ∈ wsX10, w ∈ wsX3_ticket := fun _ h => List.mem_cons_of_mem _ (List.mem_append_left _ (List.mem_append_right _ h))
  have iX0 : ∀ w ∈ wsX00, w ∈ wsX3_ticket := fun _ h => List.mem_cons_of_mem _ (List.mem_append_right _ h)
  refine lv_aload_n hx hb dX3_ticket_0 rfl (lv_at hl 0 rfl) ?_
  refine va_get (D := D) (ci := 3) (v := .ref nw) (C := RX3) (T := TX3) (N := 17) hx hb hts iX3 hown hK hP 0 rfl rfl 4 (by decide) (hts (.fieldLink RX3 32 "PunchedTicket" "now" "LPunchedTicket$Moment;") (List.mem_of_getElem? (i := 1) rfl)) (fun _ h9 => h9) rfl dX3_ticket_1 ?_
  refine lv_iload_n hx hb dX3_ticket_4 rfl (lv_at hl 1 rfl) ?_
  refine cV_i (As := [.int n]) (rest := []) ⟨hx, hb, hml, hown, hts⟩ (c_X1_hasTicket l D cI cZ cM nw n ln md 0 mr mg mat mfd mhd _ ) (cwV 1 hts gX3_ticket_X1_hasTicket rfl rfl rfl (by decide +kernel) ⟨by rw [hR]; decide, by rw [hR]; decide⟩) hK hP hD hS hA [1] [0] rfl rfl (by decide) (by decide) (by decide) rfl 1 rfl hl.1 rfl rfl (Nat.le_of_ble_eq_true rfl) dX3_ticket_5 ⟨by rw [hR]; decide, by rw [hR]; decide⟩ (fun r_1 u_2 H locs hw hP hD hS => ?_)
  have hP : va_P D vwCl [(h0, .inr (3, [.ref tx, .int le, .ref td, .ref dr, .ref nw, .ref ac, .int fa, .int an, .ref kp, .int ks, .ref sp, .ref ss, .ref sy, .int sc, .long sd, .ref tr, .ref ia])), (nw, .inr (1, [.ref ln, .int md, .int 0, .int mr, .int mg, .ref mat, .ref mfd, .ref mhd]))] H := hP.sub [0, 1] rfl
  have hD : va_D A [(h0, .inr (3, [.ref tx, .int le, .ref td, .ref dr, .ref nw, .ref ac, .int fa, .int an, .ref kp, .int ks, .ref sp, .ref ss, .ref sy, .int sc, .long sd, .ref tr, .ref ia])), (nw, .inr (1, [.ref ln, .int md, .int 0, .int mr, .int mg, .ref mat, .ref mfd, .ref mhd]))] := hD.sub [0, 1] (by decide) rfl
  refine W.widen (k := 0) (n := 0) (Nat.le_refl _) (Nat.le_refl _) ?_
  have hw : (r_1.toInt = 1 ∧ 0 ≤ n.toInt ∧ n.toInt < (0 : Int)) ∨ (r_1.toInt = 0 ∧ (n.toInt < 0 ∨ (0 : Int) ≤ n.toInt)) := hw
  have hw_3 := hw
  refine lv_if_ne (tgt := 13) hx hb dX3_ticket_8 (by decide) (fun c_4 => ?_) (fun c_4 => ?_)
  · have tc_4 := b_ne rfl (show (0 : Int32).toInt = 0 by decide) c_4
    exfalso; omega
  · have tc_4 := b_eq rfl (show (0 : Int32).toInt = 0 by decide) c_4
    refine lv_iconst (v := (-1)) hx hb dX3_ticket_11 (by decide) ?_
    exact ret_i (post := (fun (r : Int32) (u : Unit) => r.toInt = -1)) (W1 := (fun u => [(h0, .inr (3, [.ref tx, .int le, .ref td, .ref dr, .ref nw, .ref ac, .int fa, .int an, .ref kp, .int ks, .ref sp, .ref ss, .ref sy, .int sc, .long sd, .ref tr, .ref ia])), (nw, .inr (1, [.ref ln, .int md, .int 0, .int mr, .int mg, .ref mat, .ref mfd, .ref mhd]))])) () hx hb hr hlocks rfl hQ hK hP hD hS ⟨by decide, by decide⟩ dX3_ticket_12 (show (-1 : Int) = -1 by omega)

set_option maxHeartbeats 600000 in
set_option maxRecDepth 100000 in
theorem c_X3_lose0 (l : Launch) (D : va_G) (cI cZ cM : ClassId) (h0 : Nat) (n : Int32) (tx : Nat) (le : Int32) (td : Nat) (dr : Nat) (nw : Nat) (ac : Nat) (fa : Int32) (an : Int32) (kp : Nat) (ks : Int32) (sp : Nat) (ss : Nat) (sy : Nat) (sc : Int32) (sd : Int64) (tr : Nat) (ia : Nat) (ln : Nat) (md : Int32) (mr : Int32) (mg : Int32) (mat : Nat) (mfd : Nat) (mhd : Nat) (sz : Nat)  : Ci l yX3_lose wsX3_lose ({ frames := 1, cells := 0, slots := 0, locals := 21 } : Room) D cI cZ cM [.ref h0, .int n] [(h0, .inr (3, [.ref tx, .int le, .ref td, .ref dr, .ref nw, .ref ac, .int fa, .int an, .ref kp, .int ks, .ref sp, .ref ss, .ref sy, .int sc, .long sd, .ref tr, .ref ia])), (nw, .inr (1, [.ref ln, .int md, .int 0, .int mr, .int mg, .ref mat, .ref mfd, .ref mhd]))] sz (fun (r : Int32) (u : Unit) => r.toInt = -1) (fun u => [(h0, .inr (3, [.ref tx, .int le, .ref td, .ref dr, .ref nw, .ref ac, .int fa, .int an, .ref kp, .int ks, .ref sp, .ref ss, .ref sy, .int sc, .long sd, .ref tr, .ref ia])), (nw, .inr (1, [.ref ln, .int md, .int 0, .int mr, .int mg, .ref mat, .ref mfd, .ref mhd]))]) 0 0 := by
  refine begins (l := l) (y := yX3_lose) (ws := wsX3_lose) (av := [.ref h0, .int n]) (Qc := fun A => va_Qi (fun (r : Int32) (u : Unit) => r.toInt = -1) (fun u => Wd D cI cZ cM A ((fun u => [(h0, .inr (3, [.ref tx, .int le, .ref td, .ref dr, .ref nw, .ref ac, .int fa, .int an, .ref kp, .int ks, .ref sp, .ref ss, .ref sy, .int sc, .long sd, .ref tr, .ref ia])), (nw, .inr (1, [.ref ln, .int md, .int 0, .int mr, .int mg, .ref mat, .ref mfd, .ref mhd]))]) u)) A) cX3_lose 2 (some .int) (by decide) rfl (Nat.le_of_ble_eq_true rfl) ?_
  intro p e s m args below meth c R Q A ls hBd hR hQ hA hS hK hP hD hl
  obtain ⟨hx, hb, hr, hts, hown, hlocks, hin, hml⟩ := hBd
  have hl : lv_has ls 2 [(0, .ref h0), (1, .int n)] := hl
  have iX3 : ∀ w ∈ wsX30, w ∈ wsX3_lose := fun _ h => List.mem_cons_of_mem _ (List.mem_append_left _ (List.mem_append_right _ h))
  have iX1 : ∀ w ∈ wsX10, w ∈ wsX3_lose := fun _ h => List.mem_cons_of_mem _ (List.mem_append_right _ h)
  refine lv_aload_n hx hb dX3_lose_0 rfl (lv_at hl 0 rfl) ?_
  refine va_get (D := D) (ci := 3) (v := .ref nw) (C := RX3) (T := TX3) (N := 17) hx hb hts iX3 hown hK hP 0 rfl rfl 4 (by decide) (hts (.fieldLink RX3 32 "PunchedTicket" "now" "LPunchedTicket$Moment;") (List.mem_of_getElem? (i := 1) rfl)) (fun _ h9 => h9) rfl dX3_lose_1 ?_
  refine lv_iload_n hx hb dX3_lose_4 rfl (lv_at hl 1 rfl) ?_
  refine cV_i (As := [.int n]) (rest := []) ⟨hx, hb, hml, hown, hts⟩ (c_X1_hasTicket l D cI cZ cM nw n ln md 0 mr mg mat mfd mhd _ ) (cwV 1 hts gX3_lose_X1_hasTicket rfl rfl rfl (by decide +kernel) ⟨by rw [hR]; decide, by rw [hR]; decide⟩) hK hP hD hS hA [1] [0] rfl rfl (by decide) (by decide) (by decide) rfl 1 rfl hl.1 rfl rfl (Nat.le_of_ble_eq_true rfl) dX3_lose_5 ⟨by rw [hR]; decide, by rw [hR]; decide⟩ (fun r_1 u_2 H locs hw hP hD hS => ?_)
  have hP : va_P D vwCl [(h0, .inr (3, [.ref tx, .int le, .ref td, .ref dr, .ref nw, .ref ac, .int fa, .int an, .ref kp, .int ks, .ref sp, .ref ss, .ref sy, .int sc, .long sd, .ref tr, .ref ia])), (nw, .inr (1, [.ref ln, .int md, .int 0, .int mr, .int mg, .ref mat, .ref mfd, .ref mhd]))] H := hP.sub [0, 1] rfl
  have hD : va_D A [(h0, .inr (3, [.ref tx, .int le, .ref td, .ref dr, .ref nw, .ref ac, .int fa, .int an, .ref kp, .int ks, .ref sp, .ref ss, .ref sy, .int sc, .long sd, .ref tr, .ref ia])), (nw, .inr (1, [.ref ln, .int md, .int 0, .int mr, .int mg, .ref mat, .ref mfd, .ref mhd]))] := hD.sub [0, 1] (by decide) rfl
  refine W.widen (k := 0) (n := 0) (Nat.le_refl _) (Nat.le_refl _) ?_
  have hw : (r_1.toInt = 1 ∧ 0 ≤ n.toInt ∧ n.toInt < (0 : Int)) ∨ (r_1.toInt = 0 ∧ (n.toInt < 0 ∨ (0 : Int) ≤ n.toInt)) := hw
  have hw_3 := hw
  refine lv_if_ne (tgt := 13) hx hb dX3_lose_8 (by decide) (fun c_4 => ?_) (fun c_4 => ?_)
  · have tc_4 := b_ne rfl (show (0 : Int32).toInt = 0 by decide) c_4
    exfalso; omega
  · have tc_4 := b_eq rfl (show (0 : Int32).toInt = 0 by decide) c_4
    refine lv_iconst (v := (-1)) hx hb dX3_lose_11 (by decide) ?_
    exact ret_i (post := (fun (r : Int32) (u : Unit) => r.toInt = -1)) (W1 := (fun u => [(h0, .inr (3, [.ref tx, .int le, .ref td, .ref dr, .ref nw, .ref ac, .int fa, .int an, .ref kp, .int ks, .ref sp, .ref ss, .ref sy, .int sc, .long sd, .ref tr, .ref ia])), (nw, .inr (1, [.ref ln, .int md, .int 0, .int mr, .int mg, .ref mat, .ref mfd, .ref mhd]))])) () hx hb hr hlocks rfl hQ hK hP hD hS ⟨by decide, by decide⟩ dX3_lose_12 (show (-1 : Int) = -1 by omega)

set_option maxHeartbeats 600000 in
set_option maxRecDepth 100000 in
theorem c_X3_falls0 (l : Launch) (D : va_G) (cI cZ cM : ClassId) (h0 : Nat) (n : Int32) (tx : Nat) (le : Int32) (td : Nat) (dr : Nat) (nw : Nat) (ac : Nat) (fa : Int32) (an : Int32) (kp : Nat) (ks : Int32) (sp : Nat) (ss : Nat) (sy : Nat) (sc : Int32) (sd : Int64) (tr : Nat) (ia : Nat) (ln : Nat) (md : Int32) (mr : Int32) (mg : Int32) (mat : Nat) (mfd : Nat) (mhd : Nat) (sz : Nat)  : Ci l yX3_falls wsX3_falls ({ frames := 1, cells := 0, slots := 0, locals := 21 } : Room) D cI cZ cM [.ref h0, .int n] [(h0, .inr (3, [.ref tx, .int le, .ref td, .ref dr, .ref nw, .ref ac, .int fa, .int an, .ref kp, .int ks, .ref sp, .ref ss, .ref sy, .int sc, .long sd, .ref tr, .ref ia])), (nw, .inr (1, [.ref ln, .int md, .int 0, .int mr, .int mg, .ref mat, .ref mfd, .ref mhd]))] sz (fun (r : Int32) (u : Unit) => r.toInt = -1) (fun u => [(h0, .inr (3, [.ref tx, .int le, .ref td, .ref dr, .ref nw, .ref ac, .int fa, .int an, .ref kp, .int ks, .ref sp, .ref ss, .ref sy, .int sc, .long sd, .ref tr, .ref ia])), (nw, .inr (1, [.ref ln, .int md, .int 0, .int mr, .int mg, .ref mat, .ref mfd, .ref mhd]))]) 0 0 := by
  refine begins (l := l) (y := yX3_falls) (ws := wsX3_falls) (av := [.ref h0, .int n]) (Qc := fun A => va_Qi (fun (r : Int32) (u : Unit) => r.toInt = -1) (fun u => Wd D cI cZ cM A ((fun u => [(h0, .inr (3, [.ref tx, .int le, .ref td, .ref dr, .ref nw, .ref ac, .int fa, .int an, .ref kp, .int ks, .ref sp, .ref ss, .ref sy, .int sc, .long sd, .ref tr, .ref ia])), (nw, .inr (1, [.ref ln, .int md, .int 0, .int mr, .int mg, .ref mat, .ref mfd, .ref mhd]))]) u)) A) cX3_falls 3 (some .int) (by decide) rfl (Nat.le_of_ble_eq_true rfl) ?_
  intro p e s m args below meth c R Q A ls hBd hR hQ hA hS hK hP hD hl
  obtain ⟨hx, hb, hr, hts, hown, hlocks, hin, hml⟩ := hBd
  have hl : lv_has ls 3 [(0, .ref h0), (1, .int n)] := hl
  have iX3 : ∀ w ∈ wsX30, w ∈ wsX3_falls := fun _ h => List.mem_cons_of_mem _ (List.mem_append_left _ (List.mem_append_left _ (List.mem_append_left _ (List.mem_append_right _ h))))
  have iX2 : ∀ w ∈ wsX20, w ∈ wsX3_falls := fun _ h => List.mem_cons_of_mem _ (List.mem_append_left _ (List.mem_append_left _ (List.mem_append_right _ h)))
  have iX1 : ∀ w ∈ wsX10, w ∈ wsX3_falls := fun _ h => List.mem_cons_of_mem _ (List.mem_append_left _ (List.mem_append_right _ h))
  have iX0 : ∀ w ∈ wsX00, w ∈ wsX3_falls := fun _ h => List.mem_cons_of_mem _ (List.mem_append_right _ h)
  refine lv_aload_n hx hb dX3_falls_0 rfl (lv_at hl 0 rfl) ?_
  refine va_get (D := D) (ci := 3) (v := .ref nw) (C := RX3) (T := TX3) (N := 17) hx hb hts iX3 hown hK hP 0 rfl rfl 4 (by decide) (hts (.fieldLink RX3 32 "PunchedTicket" "now" "LPunchedTicket$Moment;") (List.mem_of_getElem? (i := 1) rfl)) (fun _ h9 => h9) rfl dX3_falls_1 ?_
  refine lv_iload_n hx hb dX3_falls_4 rfl (lv_at hl 1 rfl) ?_
  refine cV_i (As := [.int n]) (rest := []) ⟨hx, hb, hml, hown, hts⟩ (c_X1_hasTicket l D cI cZ cM nw n ln md 0 mr mg mat mfd mhd _ ) (cwV 1 hts gX3_falls_X1_hasTicket rfl rfl rfl (by decide +kernel) ⟨by rw [hR]; decide, by rw [hR]; decide⟩) hK hP hD hS hA [1] [0] rfl rfl (by decide) (by decide) (by decide) rfl 1 rfl hl.1 rfl rfl (Nat.le_of_ble_eq_true rfl) dX3_falls_5 ⟨by rw [hR]; decide, by rw [hR]; decide⟩ (fun r_1 u_2 H locs hw hP hD hS => ?_)
  have hP : va_P D vwCl [(h0, .inr (3, [.ref tx, .int le, .ref td, .ref dr, .ref nw, .ref ac, .int fa, .int an, .ref kp, .int ks, .ref sp, .ref ss, .ref sy, .int sc, .long sd, .ref tr, .ref ia])), (nw, .inr (1, [.ref ln, .int md, .int 0, .int mr, .int mg, .ref mat, .ref mfd, .ref mhd]))] H := hP.sub [0, 1] rfl
  have hD : va_D A [(h0, .inr (3, [.ref tx, .int le, .ref td, .ref dr, .ref nw, .ref ac, .int fa, .int an, .ref kp, .int ks, .ref sp, .ref ss, .ref sy, .int sc, .long sd, .ref tr, .ref ia])), (nw, .inr (1, [.ref ln, .int md, .int 0, .int mr, .int mg, .ref mat, .ref mfd, .ref mhd]))] := hD.sub [0, 1] (by decide) rfl
  refine W.widen (k := 0) (n := 0) (Nat.le_refl _) (Nat.le_refl _) ?_
  have hw : (r_1.toInt = 1 ∧ 0 ≤ n.toInt ∧ n.toInt < (0 : Int)) ∨ (r_1.toInt = 0 ∧ (n.toInt < 0 ∨ (0 : Int) ≤ n.toInt)) := hw
  have hw_3 := hw
  refine lv_if_ne (tgt := 13) hx hb dX3_falls_8 (by decide) (fun c_4 => ?_) (fun c_4 => ?_)
  · have tc_4 := b_ne rfl (show (0 : Int32).toInt = 0 by decide) c_4
    exfalso; omega
  · have tc_4 := b_eq rfl (show (0 : Int32).toInt = 0 by decide) c_4
    refine lv_iconst (v := (-1)) hx hb dX3_falls_11 (by decide) ?_
    exact ret_i (post := (fun (r : Int32) (u : Unit) => r.toInt = -1)) (W1 := (fun u => [(h0, .inr (3, [.ref tx, .int le, .ref td, .ref dr, .ref nw, .ref ac, .int fa, .int an, .ref kp, .int ks, .ref sp, .ref ss, .ref sy, .int sc, .long sd, .ref tr, .ref ia])), (nw, .inr (1, [.ref ln, .int md, .int 0, .int mr, .int mg, .ref mat, .ref mfd, .ref mhd]))])) () hx hb hr hlocks rfl hQ hK hP hD hS ⟨by decide, by decide⟩ dX3_falls_12 (show (-1 : Int) = -1 by omega)

set_option maxHeartbeats 600000 in
set_option maxRecDepth 100000 in
theorem c_X3_share0 (l : Launch) (D : va_G) (cI cZ cM : ClassId) (h0 : Nat) (n : Int32) (z : Int32) (tx : Nat) (le : Int32) (td : Nat) (dr : Nat) (nw : Nat) (ac : Nat) (fa : Int32) (an : Int32) (kp : Nat) (ks : Int32) (sp : Nat) (ss : Nat) (sy : Nat) (sc : Int32) (sd : Int64) (tr : Nat) (ia : Nat) (ln : Nat) (md : Int32) (mr : Int32) (mg : Int32) (mat : Nat) (mfd : Nat) (mhd : Nat) (sz : Nat)  : Ci l yX3_share wsX3_share ({ frames := 1, cells := 0, slots := 0, locals := 21 } : Room) D cI cZ cM [.ref h0, .int n, .int z] [(h0, .inr (3, [.ref tx, .int le, .ref td, .ref dr, .ref nw, .ref ac, .int fa, .int an, .ref kp, .int ks, .ref sp, .ref ss, .ref sy, .int sc, .long sd, .ref tr, .ref ia])), (nw, .inr (1, [.ref ln, .int md, .int 0, .int mr, .int mg, .ref mat, .ref mfd, .ref mhd]))] sz (fun (r : Int32) (u : Unit) => r.toInt = -1) (fun u => [(h0, .inr (3, [.ref tx, .int le, .ref td, .ref dr, .ref nw, .ref ac, .int fa, .int an, .ref kp, .int ks, .ref sp, .ref ss, .ref sy, .int sc, .long sd, .ref tr, .ref ia])), (nw, .inr (1, [.ref ln, .int md, .int 0, .int mr, .int mg, .ref mat, .ref mfd, .ref mhd]))]) 0 0 := by
  refine begins (l := l) (y := yX3_share) (ws := wsX3_share) (av := [.ref h0, .int n, .int z]) (Qc := fun A => va_Qi (fun (r : Int32) (u : Unit) => r.toInt = -1) (fun u => Wd D cI cZ cM A ((fun u => [(h0, .inr (3, [.ref tx, .int le, .ref td, .ref dr, .ref nw, .ref ac, .int fa, .int an, .ref kp, .int ks, .ref sp, .ref ss, .ref sy, .int sc, .long sd, .ref tr, .ref ia])), (nw, .inr (1, [.ref ln, .int md, .int 0, .int mr, .int mg, .ref mat, .ref mfd, .ref mhd]))]) u)) A) cX3_share 9 (some .int) (by decide) rfl (Nat.le_of_ble_eq_true rfl) ?_
  intro p e s m args below meth c R Q A ls hBd hR hQ hA hS hK hP hD hl
  obtain ⟨hx, hb, hr, hts, hown, hlocks, hin, hml⟩ := hBd
  have hl : lv_has ls 9 [(0, .ref h0), (1, .int n), (2, .int z)] := hl
  have iX3 : ∀ w ∈ wsX30, w ∈ wsX3_share := fun _ h => List.mem_cons_of_mem _ (List.mem_append_left _ (List.mem_append_left _ (List.mem_append_left _ (List.mem_append_right _ h))))
  have iX1 : ∀ w ∈ wsX10, w ∈ wsX3_share := fun _ h => List.mem_cons_of_mem _ (List.mem_append_left _ (List.mem_append_left _ (List.mem_append_right _ h)))
  have iX2 : ∀ w ∈ wsX20, w ∈ wsX3_share := fun _ h => List.mem_cons_of_mem _ (List.mem_append_left _ (List.mem_append_right _ h))
  have iX0 : ∀ w ∈ wsX00, w ∈ wsX3_share := fun _ h => List.mem_cons_of_mem _ (List.mem_append_right _ h)
  refine lv_aload_n hx hb dX3_share_0 rfl (lv_at hl 0 rfl) ?_
  refine va_get (D := D) (ci := 3) (v := .ref nw) (C := RX3) (T := TX3) (N := 17) hx hb hts iX3 hown hK hP 0 rfl rfl 4 (by decide) (hts (.fieldLink RX3 32 "PunchedTicket" "now" "LPunchedTicket$Moment;") (List.mem_of_getElem? (i := 1) rfl)) (fun _ h9 => h9) rfl dX3_share_1 ?_
  refine lv_iload_n hx hb dX3_share_4 rfl (lv_at hl 1 rfl) ?_
  refine cV_i (As := [.int n]) (rest := []) ⟨hx, hb, hml, hown, hts⟩ (c_X1_hasTicket l D cI cZ cM nw n ln md 0 mr mg mat mfd mhd _ ) (cwV 1 hts gX3_share_X1_hasTicket rfl rfl rfl (by decide +kernel) ⟨by rw [hR]; decide, by rw [hR]; decide⟩) hK hP hD hS hA [1] [0] rfl rfl (by decide) (by decide) (by decide) rfl 1 rfl hl.1 rfl rfl (Nat.le_of_ble_eq_true rfl) dX3_share_5 ⟨by rw [hR]; decide, by rw [hR]; decide⟩ (fun r_1 u_2 H locs hw hP hD hS => ?_)
  have hP : va_P D vwCl [(h0, .inr (3, [.ref tx, .int le, .ref td, .ref dr, .ref nw, .ref ac, .int fa, .int an, .ref kp, .int ks, .ref sp, .ref ss, .ref sy, .int sc, .long sd, .ref tr, .ref ia])), (nw, .inr (1, [.ref ln, .int md, .int 0, .int mr, .int mg, .ref mat, .ref mfd, .ref mhd]))] H := hP.sub [0, 1] rfl
  have hD : va_D A [(h0, .inr (3, [.ref tx, .int le, .ref td, .ref dr, .ref nw, .ref ac, .int fa, .int an, .ref kp, .int ks, .ref sp, .ref ss, .ref sy, .int sc, .long sd, .ref tr, .ref ia])), (nw, .inr (1, [.ref ln, .int md, .int 0, .int mr, .int mg, .ref mat, .ref mfd, .ref mhd]))] := hD.sub [0, 1] (by decide) rfl
  refine W.widen (k := 0) (n := 0) (Nat.le_refl _) (Nat.le_refl _) ?_
  have hw : (r_1.toInt = 1 ∧ 0 ≤ n.toInt ∧ n.toInt < (0 : Int)) ∨ (r_1.toInt = 0 ∧ (n.toInt < 0 ∨ (0 : Int) ≤ n.toInt)) := hw
  have hw_3 := hw
  refine lv_if_ne (tgt := 13) hx hb dX3_share_8 (by decide) (fun c_4 => ?_) (fun c_4 => ?_)
  · have tc_4 := b_ne rfl (show (0 : Int32).toInt = 0 by decide) c_4
    exfalso; omega
  · have tc_4 := b_eq rfl (show (0 : Int32).toInt = 0 by decide) c_4
    refine lv_iconst (v := (-1)) hx hb dX3_share_11 (by decide) ?_
    exact ret_i (post := (fun (r : Int32) (u : Unit) => r.toInt = -1)) (W1 := (fun u => [(h0, .inr (3, [.ref tx, .int le, .ref td, .ref dr, .ref nw, .ref ac, .int fa, .int an, .ref kp, .int ks, .ref sp, .ref ss, .ref sy, .int sc, .long sd, .ref tr, .ref ia])), (nw, .inr (1, [.ref ln, .int md, .int 0, .int mr, .int mg, .ref mat, .ref mfd, .ref mhd]))])) () hx hb hr hlocks rfl hQ hK hP hD hS ⟨by decide, by decide⟩ dX3_share_12 (show (-1 : Int) = -1 by omega)

set_option maxHeartbeats 600000 in
set_option maxRecDepth 100000 in
theorem c_X3_held0 (l : Launch) (D : va_G) (cI cZ cM : ClassId) (h0 : Nat) (n : Int32) (tx : Nat) (le : Int32) (td : Nat) (dr : Nat) (nw : Nat) (ac : Nat) (fa : Int32) (an : Int32) (kp : Nat) (ks : Int32) (sp : Nat) (ss : Nat) (sy : Nat) (sc : Int32) (sd : Int64) (tr : Nat) (ia : Nat) (ln : Nat) (md : Int32) (mr : Int32) (mg : Int32) (mat : Nat) (mfd : Nat) (mhd : Nat) (sz : Nat)  : Ci l yX3_held wsX3_held ({ frames := 1, cells := 0, slots := 0, locals := 21 } : Room) D cI cZ cM [.ref h0, .int n] [(h0, .inr (3, [.ref tx, .int le, .ref td, .ref dr, .ref nw, .ref ac, .int fa, .int an, .ref kp, .int ks, .ref sp, .ref ss, .ref sy, .int sc, .long sd, .ref tr, .ref ia])), (nw, .inr (1, [.ref ln, .int md, .int 0, .int mr, .int mg, .ref mat, .ref mfd, .ref mhd]))] sz (fun (r : Int32) (u : Unit) => r.toInt = -1) (fun u => [(h0, .inr (3, [.ref tx, .int le, .ref td, .ref dr, .ref nw, .ref ac, .int fa, .int an, .ref kp, .int ks, .ref sp, .ref ss, .ref sy, .int sc, .long sd, .ref tr, .ref ia])), (nw, .inr (1, [.ref ln, .int md, .int 0, .int mr, .int mg, .ref mat, .ref mfd, .ref mhd]))]) 0 0 := by
  refine begins (l := l) (y := yX3_held) (ws := wsX3_held) (av := [.ref h0, .int n]) (Qc := fun A => va_Qi (fun (r : Int32) (u : Unit) => r.toInt = -1) (fun u => Wd D cI cZ cM A ((fun u => [(h0, .inr (3, [.ref tx, .int le, .ref td, .ref dr, .ref nw, .ref ac, .int fa, .int an, .ref kp, .int ks, .ref sp, .ref ss, .ref sy, .int sc, .long sd, .ref tr, .ref ia])), (nw, .inr (1, [.ref ln, .int md, .int 0, .int mr, .int mg, .ref mat, .ref mfd, .ref mhd]))]) u)) A) cX3_held 4 (some .int) (by decide) rfl (Nat.le_of_ble_eq_true rfl) ?_
  intro p e s m args below meth c R Q A ls hBd hR hQ hA hS hK hP hD hl
  obtain ⟨hx, hb, hr, hts, hown, hlocks, hin, hml⟩ := hBd
  have hl : lv_has ls 4 [(0, .ref h0), (1, .int n)] := hl
  have iX3 : ∀ w ∈ wsX30, w ∈ wsX3_held := fun _ h => List.mem_cons_of_mem _ (List.mem_append_left _ (List.mem_append_left _ (List.mem_append_left _ (List.mem_append_right _ h))))
  have iX0 : ∀ w ∈ wsX00, w ∈ wsX3_held := fun _ h => List.mem_cons_of_mem _ (List.mem_append_left _ (List.mem_append_left _ (List.mem_append_right _ h)))
  have iX2 : ∀ w ∈ wsX20, w ∈ wsX3_held := fun _ h => List.mem_cons_of_mem _ (List.mem_append_left _ (List.mem_append_right _ h))
  have iX1 : ∀ w ∈ wsX10, w ∈ wsX3_held := fun _ h => List.mem_cons_of_mem _ (List.mem_append_right _ h)
  refine lv_aload_n hx hb dX3_held_0 rfl (lv_at hl 0 rfl) ?_
  refine va_get (D := D) (ci := 3) (v := .ref nw) (C := RX3) (T := TX3) (N := 17) hx hb hts iX3 hown hK hP 0 rfl rfl 4 (by decide) (hts (.fieldLink RX3 32 "PunchedTicket" "now" "LPunchedTicket$Moment;") (List.mem_of_getElem? (i := 1) rfl)) (fun _ h9 => h9) rfl dX3_held_1 ?_
  refine lv_iload_n hx hb dX3_held_4 rfl (lv_at hl 1 rfl) ?_
  refine cV_i (As := [.int n]) (rest := []) ⟨hx, hb, hml, hown, hts⟩ (c_X1_hasTicket l D cI cZ cM nw n ln md 0 mr mg mat mfd mhd _ ) (cwV 1 hts gX3_held_X1_hasTicket rfl rfl rfl (by decide +kernel) ⟨by rw [hR]; decide, by rw [hR]; decide⟩) hK hP hD hS hA [1] [0] rfl rfl (by decide) (by decide) (by decide) rfl 1 rfl hl.1 rfl rfl (Nat.le_of_ble_eq_true rfl) dX3_held_5 ⟨by rw [hR]; decide, by rw [hR]; decide⟩ (fun r_1 u_2 H locs hw hP hD hS => ?_)
  have hP : va_P D vwCl [(h0, .inr (3, [.ref tx, .int le, .ref td, .ref dr, .ref nw, .ref ac, .int fa, .int an, .ref kp, .int ks, .ref sp, .ref ss, .ref sy, .int sc, .long sd, .ref tr, .ref ia])), (nw, .inr (1, [.ref ln, .int md, .int 0, .int mr, .int mg, .ref mat, .ref mfd, .ref mhd]))] H := hP.sub [0, 1] rfl
  have hD : va_D A [(h0, .inr (3, [.ref tx, .int le, .ref td, .ref dr, .ref nw, .ref ac, .int fa, .int an, .ref kp, .int ks, .ref sp, .ref ss, .ref sy, .int sc, .long sd, .ref tr, .ref ia])), (nw, .inr (1, [.ref ln, .int md, .int 0, .int mr, .int mg, .ref mat, .ref mfd, .ref mhd]))] := hD.sub [0, 1] (by decide) rfl
  refine W.widen (k := 0) (n := 0) (Nat.le_refl _) (Nat.le_refl _) ?_
  have hw : (r_1.toInt = 1 ∧ 0 ≤ n.toInt ∧ n.toInt < (0 : Int)) ∨ (r_1.toInt = 0 ∧ (n.toInt < 0 ∨ (0 : Int) ≤ n.toInt)) := hw
  have hw_3 := hw
  refine lv_if_ne (tgt := 13) hx hb dX3_held_8 (by decide) (fun c_4 => ?_) (fun c_4 => ?_)
  · have tc_4 := b_ne rfl (show (0 : Int32).toInt = 0 by decide) c_4
    exfalso; omega
  · have tc_4 := b_eq rfl (show (0 : Int32).toInt = 0 by decide) c_4
    refine lv_iconst (v := (-1)) hx hb dX3_held_11 (by decide) ?_
    exact ret_i (post := (fun (r : Int32) (u : Unit) => r.toInt = -1)) (W1 := (fun u => [(h0, .inr (3, [.ref tx, .int le, .ref td, .ref dr, .ref nw, .ref ac, .int fa, .int an, .ref kp, .int ks, .ref sp, .ref ss, .ref sy, .int sc, .long sd, .ref tr, .ref ia])), (nw, .inr (1, [.ref ln, .int md, .int 0, .int mr, .int mg, .ref mat, .ref mfd, .ref mhd]))])) () hx hb hr hlocks rfl hQ hK hP hD hS ⟨by decide, by decide⟩ dX3_held_12 (show (-1 : Int) = -1 by omega)

set_option maxHeartbeats 600000 in
set_option maxRecDepth 100000 in
theorem c_X3_give0 (l : Launch) (D : va_G) (cI cZ cM : ClassId) (h0 : Nat) (n : Int32) (k : Int32) (tx : Nat) (le : Int32) (td : Nat) (dr : Nat) (nw : Nat) (ac : Nat) (fa : Int32) (an : Int32) (kp : Nat) (ks : Int32) (sp : Nat) (ss : Nat) (sy : Nat) (sc : Int32) (sd : Int64) (tr : Nat) (ia : Nat) (ln : Nat) (md : Int32) (mr : Int32) (mg : Int32) (mat : Nat) (mfd : Nat) (mhd : Nat) (ltk : Int32) (lho : Nat) (lli : Nat) (lki : Nat) (lfd : Nat) (lfr : Nat) (lto : Nat) (lse : Nat) (lhl : Nat) (sz : Nat)  : Ci l yX3_give wsX3_give ({ frames := 1, cells := 0, slots := 0, locals := 21 } : Room) D cI cZ cM [.ref h0, .int n, .int k] [(h0, .inr (3, [.ref tx, .int le, .ref td, .ref dr, .ref nw, .ref ac, .int fa, .int an, .ref kp, .int ks, .ref sp, .ref ss, .ref sy, .int sc, .long sd, .ref tr, .ref ia])), (nw, .inr (1, [.ref ln, .int md, .int 0, .int mr, .int mg, .ref mat, .ref mfd, .ref mhd])), (td, .inr (0, [.int 0, .int ltk, .ref lho, .ref lli, .ref lki, .ref lfd, .ref lfr, .ref lto, .ref lse, .ref lhl]))] sz (fun (r : Int32) (u : Unit) => r.toInt = -1) (fun u => [(h0, .inr (3, [.ref tx, .int le, .ref td, .ref dr, .ref nw, .ref ac, .int fa, .int an, .ref kp, .int ks, .ref sp, .ref ss, .ref sy, .int sc, .long sd, .ref tr, .ref ia])), (nw, .inr (1, [.ref ln, .int md, .int 0, .int mr, .int mg, .ref mat, .ref mfd, .ref mhd])), (td, .inr (0, [.int 0, .int ltk, .ref lho, .ref lli, .ref lki, .ref lfd, .ref lfr, .ref lto, .ref lse, .ref lhl]))]) 0 0 := by
  refine begins (l := l) (y := yX3_give) (ws := wsX3_give) (av := [.ref h0, .int n, .int k]) (Qc := fun A => va_Qi (fun (r : Int32) (u : Unit) => r.toInt = -1) (fun u => Wd D cI cZ cM A ((fun u => [(h0, .inr (3, [.ref tx, .int le, .ref td, .ref dr, .ref nw, .ref ac, .int fa, .int an, .ref kp, .int ks, .ref sp, .ref ss, .ref sy, .int sc, .long sd, .ref tr, .ref ia])), (nw, .inr (1, [.ref ln, .int md, .int 0, .int mr, .int mg, .ref mat, .ref mfd, .ref mhd])), (td, .inr (0, [.int 0, .int ltk, .ref lho, .ref lli, .ref lki, .ref lfd, .ref lfr, .ref lto, .ref lse, .ref lhl]))]) u)) A) cX3_give 4 (some .int) (by decide) rfl (Nat.le_of_ble_eq_true rfl) ?_
  intro p e s m args below meth c R Q A ls hBd hR hQ hA hS hK hP hD hl
  obtain ⟨hx, hb, hr, hts, hown, hlocks, hin, hml⟩ := hBd
  have hl : lv_has ls 4 [(0, .ref h0), (1, .int n), (2, .int k)] := hl
  have iX3 : ∀ w ∈ wsX30, w ∈ wsX3_give := fun _ h => List.mem_cons_of_mem _ (List.mem_append_left _ (List.mem_append_left _ (List.mem_append_right _ h)))
  have iX1 : ∀ w ∈ wsX10, w ∈ wsX3_give := fun _ h => List.mem_cons_of_mem _ (List.mem_append_left _ (List.mem_append_right _ h))
  have iX0 : ∀ w ∈ wsX00, w ∈ wsX3_give := fun _ h => List.mem_cons_of_mem _ (List.mem_append_right _ h)
  refine lv_aload_n hx hb dX3_give_0 rfl (lv_at hl 0 rfl) ?_
  refine va_get (D := D) (ci := 3) (v := .ref nw) (C := RX3) (T := TX3) (N := 17) hx hb hts iX3 hown hK hP 0 rfl rfl 4 (by decide) (hts (.fieldLink RX3 32 "PunchedTicket" "now" "LPunchedTicket$Moment;") (List.mem_of_getElem? (i := 1) rfl)) (fun _ h9 => h9) rfl dX3_give_1 ?_
  refine lv_iload_n hx hb dX3_give_4 rfl (lv_at hl 1 rfl) ?_
  refine cV_i (As := [.int n]) (rest := []) ⟨hx, hb, hml, hown, hts⟩ (c_X1_hasTicket l D cI cZ cM nw n ln md 0 mr mg mat mfd mhd _ ) (cwV 1 hts gX3_give_X1_hasTicket rfl rfl rfl (by decide +kernel) ⟨by rw [hR]; decide, by rw [hR]; decide⟩) hK hP hD hS hA [1] [0, 2] rfl rfl (by decide) (by decide) (by decide) rfl 1 rfl hl.1 rfl rfl (Nat.le_of_ble_eq_true rfl) dX3_give_5 ⟨by rw [hR]; decide, by rw [hR]; decide⟩ (fun r_1 u_2 H locs hw hP hD hS => ?_)
  have hP : va_P D vwCl [(h0, .inr (3, [.ref tx, .int le, .ref td, .ref dr, .ref nw, .ref ac, .int fa, .int an, .ref kp, .int ks, .ref sp, .ref ss, .ref sy, .int sc, .long sd, .ref tr, .ref ia])), (nw, .inr (1, [.ref ln, .int md, .int 0, .int mr, .int mg, .ref mat, .ref mfd, .ref mhd])), (td, .inr (0, [.int 0, .int ltk, .ref lho, .ref lli, .ref lki, .ref lfd, .ref lfr, .ref lto, .ref lse, .ref lhl]))] H := hP.sub [0, 2, 1] rfl
  have hD : va_D A [(h0, .inr (3, [.ref tx, .int le, .ref td, .ref dr, .ref nw, .ref ac, .int fa, .int an, .ref kp, .int ks, .ref sp, .ref ss, .ref sy, .int sc, .long sd, .ref tr, .ref ia])), (nw, .inr (1, [.ref ln, .int md, .int 0, .int mr, .int mg, .ref mat, .ref mfd, .ref mhd])), (td, .inr (0, [.int 0, .int ltk, .ref lho, .ref lli, .ref lki, .ref lfd, .ref lfr, .ref lto, .ref lse, .ref lhl]))] := hD.sub [0, 2, 1] (by decide) rfl
  refine W.widen (k := 0) (n := 0) (Nat.le_refl _) (Nat.le_refl _) ?_
  have hw : (r_1.toInt = 1 ∧ 0 ≤ n.toInt ∧ n.toInt < (0 : Int)) ∨ (r_1.toInt = 0 ∧ (n.toInt < 0 ∨ (0 : Int) ≤ n.toInt)) := hw
  have hw_3 := hw
  refine lv_if_eq (tgt := 22) hx hb dX3_give_8 (by decide) (fun c_4 => ?_) (fun c_4 => ?_)
  · have tc_4 := b_eq rfl (show (0 : Int32).toInt = 0 by decide) c_4
    refine lv_iconst (v := (-1)) hx hb dX3_give_22 (by decide) ?_
    exact ret_i (post := (fun (r : Int32) (u : Unit) => r.toInt = -1)) (W1 := (fun u => [(h0, .inr (3, [.ref tx, .int le, .ref td, .ref dr, .ref nw, .ref ac, .int fa, .int an, .ref kp, .int ks, .ref sp, .ref ss, .ref sy, .int sc, .long sd, .ref tr, .ref ia])), (nw, .inr (1, [.ref ln, .int md, .int 0, .int mr, .int mg, .ref mat, .ref mfd, .ref mhd])), (td, .inr (0, [.int 0, .int ltk, .ref lho, .ref lli, .ref lki, .ref lfd, .ref lfr, .ref lto, .ref lse, .ref lhl]))])) () hx hb hr hlocks rfl hQ hK hP hD hS ⟨by decide, by decide⟩ dX3_give_23 (show (-1 : Int) = -1 by omega)
  · have tc_4 := b_ne rfl (show (0 : Int32).toInt = 0 by decide) c_4
    exfalso; omega

set_option maxHeartbeats 600000 in
set_option maxRecDepth 100000 in
theorem c_X3_change0 (l : Launch) (D : va_G) (cI cZ cM : ClassId) (h0 : Nat) (n : Int32) (k : Int32) (tx : Nat) (le : Int32) (td : Nat) (dr : Nat) (nw : Nat) (ac : Nat) (fa : Int32) (an : Int32) (kp : Nat) (ks : Int32) (sp : Nat) (ss : Nat) (sy : Nat) (sc : Int32) (sd : Int64) (tr : Nat) (ia : Nat) (ln : Nat) (md : Int32) (mr : Int32) (mg : Int32) (mat : Nat) (mfd : Nat) (mhd : Nat) (sz : Nat)  : Ci l yX3_change wsX3_change ({ frames := 1, cells := 0, slots := 0, locals := 21 } : Room) D cI cZ cM [.ref h0, .int n, .int k] [(h0, .inr (3, [.ref tx, .int le, .ref td, .ref dr, .ref nw, .ref ac, .int fa, .int an, .ref kp, .int ks, .ref sp, .ref ss, .ref sy, .int sc, .long sd, .ref tr, .ref ia])), (nw, .inr (1, [.ref ln, .int md, .int 0, .int mr, .int mg, .ref mat, .ref mfd, .ref mhd]))] sz (fun (r : Int32) (u : Unit) => r.toInt = -1) (fun u => [(h0, .inr (3, [.ref tx, .int le, .ref td, .ref dr, .ref nw, .ref ac, .int fa, .int an, .ref kp, .int ks, .ref sp, .ref ss, .ref sy, .int sc, .long sd, .ref tr, .ref ia])), (nw, .inr (1, [.ref ln, .int md, .int 0, .int mr, .int mg, .ref mat, .ref mfd, .ref mhd]))]) 0 0 := by
  refine begins (l := l) (y := yX3_change) (ws := wsX3_change) (av := [.ref h0, .int n, .int k]) (Qc := fun A => va_Qi (fun (r : Int32) (u : Unit) => r.toInt = -1) (fun u => Wd D cI cZ cM A ((fun u => [(h0, .inr (3, [.ref tx, .int le, .ref td, .ref dr, .ref nw, .ref ac, .int fa, .int an, .ref kp, .int ks, .ref sp, .ref ss, .ref sy, .int sc, .long sd, .ref tr, .ref ia])), (nw, .inr (1, [.ref ln, .int md, .int 0, .int mr, .int mg, .ref mat, .ref mfd, .ref mhd]))]) u)) A) cX3_change 3 (some .int) (by decide) rfl (Nat.le_of_ble_eq_true rfl) ?_
  intro p e s m args below meth c R Q A ls hBd hR hQ hA hS hK hP hD hl
  obtain ⟨hx, hb, hr, hts, hown, hlocks, hin, hml⟩ := hBd
  have hl : lv_has ls 3 [(0, .ref h0), (1, .int n), (2, .int k)] := hl
  have iX3 : ∀ w ∈ wsX30, w ∈ wsX3_change := fun _ h => List.mem_cons_of_mem _ (List.mem_append_left _ (List.mem_append_right _ h))
  have iX1 : ∀ w ∈ wsX10, w ∈ wsX3_change := fun _ h => List.mem_cons_of_mem _ (List.mem_append_right _ h)
  refine lv_aload_n hx hb dX3_change_0 rfl (lv_at hl 0 rfl) ?_
  refine va_get (D := D) (ci := 3) (v := .ref nw) (C := RX3) (T := TX3) (N := 17) hx hb hts iX3 hown hK hP 0 rfl rfl 4 (by decide) (hts (.fieldLink RX3 32 "PunchedTicket" "now" "LPunchedTicket$Moment;") (List.mem_of_getElem? (i := 1) rfl)) (fun _ h9 => h9) rfl dX3_change_1 ?_
  refine lv_iload_n hx hb dX3_change_4 rfl (lv_at hl 1 rfl) ?_
  refine cV_i (As := [.int n]) (rest := []) ⟨hx, hb, hml, hown, hts⟩ (c_X1_hasTicket l D cI cZ cM nw n ln md 0 mr mg mat mfd mhd _ ) (cwV 1 hts gX3_change_X1_hasTicket rfl rfl rfl (by decide +kernel) ⟨by rw [hR]; decide, by rw [hR]; decide⟩) hK hP hD hS hA [1] [0] rfl rfl (by decide) (by decide) (by decide) rfl 1 rfl hl.1 rfl rfl (Nat.le_of_ble_eq_true rfl) dX3_change_5 ⟨by rw [hR]; decide, by rw [hR]; decide⟩ (fun r_1 u_2 H locs hw hP hD hS => ?_)
  have hP : va_P D vwCl [(h0, .inr (3, [.ref tx, .int le, .ref td, .ref dr, .ref nw, .ref ac, .int fa, .int an, .ref kp, .int ks, .ref sp, .ref ss, .ref sy, .int sc, .long sd, .ref tr, .ref ia])), (nw, .inr (1, [.ref ln, .int md, .int 0, .int mr, .int mg, .ref mat, .ref mfd, .ref mhd]))] H := hP.sub [0, 1] rfl
  have hD : va_D A [(h0, .inr (3, [.ref tx, .int le, .ref td, .ref dr, .ref nw, .ref ac, .int fa, .int an, .ref kp, .int ks, .ref sp, .ref ss, .ref sy, .int sc, .long sd, .ref tr, .ref ia])), (nw, .inr (1, [.ref ln, .int md, .int 0, .int mr, .int mg, .ref mat, .ref mfd, .ref mhd]))] := hD.sub [0, 1] (by decide) rfl
  refine W.widen (k := 0) (n := 0) (Nat.le_refl _) (Nat.le_refl _) ?_
  have hw : (r_1.toInt = 1 ∧ 0 ≤ n.toInt ∧ n.toInt < (0 : Int)) ∨ (r_1.toInt = 0 ∧ (n.toInt < 0 ∨ (0 : Int) ≤ n.toInt)) := hw
  have hw_3 := hw
  refine lv_if_eq (tgt := 22) hx hb dX3_change_8 (by decide) (fun c_4 => ?_) (fun c_4 => ?_)
  · have tc_4 := b_eq rfl (show (0 : Int32).toInt = 0 by decide) c_4
    refine lv_iconst (v := (-1)) hx hb dX3_change_22 (by decide) ?_
    exact ret_i (post := (fun (r : Int32) (u : Unit) => r.toInt = -1)) (W1 := (fun u => [(h0, .inr (3, [.ref tx, .int le, .ref td, .ref dr, .ref nw, .ref ac, .int fa, .int an, .ref kp, .int ks, .ref sp, .ref ss, .ref sy, .int sc, .long sd, .ref tr, .ref ia])), (nw, .inr (1, [.ref ln, .int md, .int 0, .int mr, .int mg, .ref mat, .ref mfd, .ref mhd]))])) () hx hb hr hlocks rfl hQ hK hP hD hS ⟨by decide, by decide⟩ dX3_change_23 (show (-1 : Int) = -1 by omega)
  · have tc_4 := b_ne rfl (show (0 : Int32).toInt = 0 by decide) c_4
    exfalso; omega

set_option maxHeartbeats 600000 in
set_option maxRecDepth 100000 in
theorem c_X3_undo0 (l : Launch) (D : va_G) (cI cZ cM : ClassId) (h0 : Nat) (tx : Nat) (le : Int32) (td : Nat) (dr : Nat) (nw : Nat) (ac : Nat) (fa : Int32) (kp : Nat) (ks : Int32) (sp : Nat) (ss : Nat) (sy : Nat) (sc : Int32) (sd : Int64) (tr : Nat) (ia : Nat) (sz : Nat)  : Ci l yX3_undo wsX3_undo ({ frames := 0, cells := 0, slots := 0, locals := 0 } : Room) D cI cZ cM [.ref h0] [(h0, .inr (3, [.ref tx, .int le, .ref td, .ref dr, .ref nw, .ref ac, .int fa, .int 0, .ref kp, .int ks, .ref sp, .ref ss, .ref sy, .int sc, .long sd, .ref tr, .ref ia]))] sz (fun (r : Int32) (u : Unit) => r.toInt = -3) (fun u => [(h0, .inr (3, [.ref tx, .int le, .ref td, .ref dr, .ref nw, .ref ac, .int fa, .int 0, .ref kp, .int ks, .ref sp, .ref ss, .ref sy, .int sc, .long sd, .ref tr, .ref ia]))]) 0 0 := by
  refine begins (l := l) (y := yX3_undo) (ws := wsX3_undo) (av := [.ref h0]) (Qc := fun A => va_Qi (fun (r : Int32) (u : Unit) => r.toInt = -3) (fun u => Wd D cI cZ cM A ((fun u => [(h0, .inr (3, [.ref tx, .int le, .ref td, .ref dr, .ref nw, .ref ac, .int fa, .int 0, .ref kp, .int ks, .ref sp, .ref ss, .ref sy, .int sc, .long sd, .ref tr, .ref ia]))]) u)) A) cX3_undo 2 (some .int) (by decide) rfl (Nat.le_of_ble_eq_true rfl) ?_
  intro p e s m args below meth c R Q A ls hBd hR hQ hA hS hK hP hD hl
  obtain ⟨hx, hb, hr, hts, hown, hlocks, hin, hml⟩ := hBd
  have hl : lv_has ls 2 [(0, .ref h0)] := hl
  have iX3 : ∀ w ∈ wsX30, w ∈ wsX3_undo := fun _ h => List.mem_cons_of_mem _ (List.mem_append_left _ (List.mem_append_right _ h))
  have iX1 : ∀ w ∈ wsX10, w ∈ wsX3_undo := fun _ h => List.mem_cons_of_mem _ (List.mem_append_right _ h)
  refine lv_aload_n hx hb dX3_undo_0 rfl (lv_at hl 0 rfl) ?_
  refine va_get (D := D) (ci := 3) (v := .int 0) (C := RX3) (T := TX3) (N := 17) hx hb hts iX3 hown hK hP 0 rfl rfl 7 (by decide) (hts (.fieldLink RX3 43 "PunchedTicket" "actsInRow" "I") (List.mem_of_getElem? (i := 1) rfl)) (fun _ h9 => h9) rfl dX3_undo_1 ?_
  refine lv_if_gt (tgt := 10) hx hb dX3_undo_4 (by decide) (fun c_1 => ?_) (fun c_1 => ?_)
  · have tc_1 := b_lt (show (0 : Int32).toInt = 0 by decide) (show (0 : Int32).toInt = 0 by decide) c_1
    exfalso; omega
  · have tc_1 := b_nlt (show (0 : Int32).toInt = 0 by decide) (show (0 : Int32).toInt = 0 by decide) c_1
    refine lv_bipush (v := (-3)) hx hb dX3_undo_7 (by decide) ?_
    exact ret_i (post := (fun (r : Int32) (u : Unit) => r.toInt = -3)) (W1 := (fun u => [(h0, .inr (3, [.ref tx, .int le, .ref td, .ref dr, .ref nw, .ref ac, .int fa, .int 0, .ref kp, .int ks, .ref sp, .ref ss, .ref sy, .int sc, .long sd, .ref tr, .ref ia]))])) () hx hb hr hlocks rfl hQ hK hP hD hS ⟨by decide, by decide⟩ dX3_undo_9 (show (-3 : Int) = -3 by omega)

set_option maxHeartbeats 600000 in
set_option maxRecDepth 100000 in
theorem c_X3_pairRefusal0 (l : Launch) (D : va_G) (cI cZ cM : ClassId) (h0 : Nat) (n : Int32) (k : Int32) (tx : Nat) (le : Int32) (td : Nat) (dr : Nat) (nw : Nat) (ac : Nat) (fa : Int32) (an : Int32) (kp : Nat) (ks : Int32) (sp : Nat) (ss : Nat) (sy : Nat) (sc : Int32) (sd : Int64) (tr : Nat) (ia : Nat) (ltk : Int32) (lho : Nat) (lli : Nat) (lki : Nat) (lfd : Nat) (lfr : Nat) (lto : Nat) (lse : Nat) (lhl : Nat) (sz : Nat)  : Ci l yX3_pairRefusal wsX3_pairRefusal ({ frames := 1, cells := 0, slots := 0, locals := 21 } : Room) D cI cZ cM [.ref h0, .int n, .int k] [(h0, .inr (3, [.ref tx, .int le, .ref td, .ref dr, .ref nw, .ref ac, .int fa, .int an, .ref kp, .int ks, .ref sp, .ref ss, .ref sy, .int sc, .long sd, .ref tr, .ref ia])), (td, .inr (0, [.int 0, .int ltk, .ref lho, .ref lli, .ref lki, .ref lfd, .ref lfr, .ref lto, .ref lse, .ref lhl]))] sz (fun (r : Int32) (u : Unit) => r.toInt = -1) (fun u => [(h0, .inr (3, [.ref tx, .int le, .ref td, .ref dr, .ref nw, .ref ac, .int fa, .int an, .ref kp, .int ks, .ref sp, .ref ss, .ref sy, .int sc, .long sd, .ref tr, .ref ia])), (td, .inr (0, [.int 0, .int ltk, .ref lho, .ref lli, .ref lki, .ref lfd, .ref lfr, .ref lto, .ref lse, .ref lhl]))]) 0 0 := by
  refine begins (l := l) (y := yX3_pairRefusal) (ws := wsX3_pairRefusal) (av := [.ref h0, .int n, .int k]) (Qc := fun A => va_Qi (fun (r : Int32) (u : Unit) => r.toInt = -1) (fun u => Wd D cI cZ cM A ((fun u => [(h0, .inr (3, [.ref tx, .int le, .ref td, .ref dr, .ref nw, .ref ac, .int fa, .int an, .ref kp, .int ks, .ref sp, .ref ss, .ref sy, .int sc, .long sd, .ref tr, .ref ia])), (td, .inr (0, [.int 0, .int ltk, .ref lho, .ref lli, .ref lki, .ref lfd, .ref lfr, .ref lto, .ref lse, .ref lhl]))]) u)) A) cX3_pairRefusal 3 (some .int) (by decide) rfl (Nat.le_of_ble_eq_true rfl) ?_
  intro p e s m args below meth c R Q A ls hBd hR hQ hA hS hK hP hD hl
  obtain ⟨hx, hb, hr, hts, hown, hlocks, hin, hml⟩ := hBd
  have hl : lv_has ls 3 [(0, .ref h0), (1, .int n), (2, .int k)] := hl
  have iX3 : ∀ w ∈ wsX30, w ∈ wsX3_pairRefusal := fun _ h => List.mem_cons_of_mem _ (List.mem_append_left _ (List.mem_append_right _ h))
  have iX0 : ∀ w ∈ wsX00, w ∈ wsX3_pairRefusal := fun _ h => List.mem_cons_of_mem _ (List.mem_append_right _ h)
  refine lv_aload_n hx hb dX3_pairRefusal_0 rfl (lv_at hl 0 rfl) ?_
  refine va_get (D := D) (ci := 3) (v := .ref td) (C := RX3) (T := TX3) (N := 17) hx hb hts iX3 hown hK hP 0 rfl rfl 2 (by decide) (hts (.fieldLink RX3 20 "PunchedTicket" "told" "LPunchedTicket$Line;") (List.mem_of_getElem? (i := 1) rfl)) (fun _ h9 => h9) rfl dX3_pairRefusal_1 ?_
  refine lv_iload_n hx hb dX3_pairRefusal_4 rfl (lv_at hl 1 rfl) ?_
  refine cV_i (As := [.int n]) (rest := []) ⟨hx, hb, hml, hown, hts⟩ (c_X0_hasPerson l D cI cZ cM td n 0 ltk lho lli lki lfd lfr lto lse lhl _ ) (cwV 1 hts gX3_pairRefusal_X0_hasPerson rfl rfl rfl (by decide +kernel) ⟨by rw [hR]; decide, by rw [hR]; decide⟩) hK hP hD hS hA [1] [0] rfl rfl (by decide) (by decide) (by decide) rfl 1 rfl hl.1 rfl rfl (Nat.le_of_ble_eq_true rfl) dX3_pairRefusal_5 ⟨by rw [hR]; decide, by rw [hR]; decide⟩ (fun r_1 u_2 H locs hw hP hD hS => ?_)
  have hP : va_P D vwCl [(h0, .inr (3, [.ref tx, .int le, .ref td, .ref dr, .ref nw, .ref ac, .int fa, .int an, .ref kp, .int ks, .ref sp, .ref ss, .ref sy, .int sc, .long sd, .ref tr, .ref ia])), (td, .inr (0, [.int 0, .int ltk, .ref lho, .ref lli, .ref lki, .ref lfd, .ref lfr, .ref lto, .ref lse, .ref lhl]))] H := hP.sub [0, 1] rfl
  have hD : va_D A [(h0, .inr (3, [.ref tx, .int le, .ref td, .ref dr, .ref nw, .ref ac, .int fa, .int an, .ref kp, .int ks, .ref sp, .ref ss, .ref sy, .int sc, .long sd, .ref tr, .ref ia])), (td, .inr (0, [.int 0, .int ltk, .ref lho, .ref lli, .ref lki, .ref lfd, .ref lfr, .ref lto, .ref lse, .ref lhl]))] := hD.sub [0, 1] (by decide) rfl
  refine W.widen (k := 0) (n := 0) (Nat.le_refl _) (Nat.le_refl _) ?_
  have hw : (r_1.toInt = 1 ∧ 0 ≤ n.toInt ∧ n.toInt < (0 : Int)) ∨ (r_1.toInt = 0 ∧ (n.toInt < 0 ∨ (0 : Int) ≤ n.toInt)) := hw
  have hw_3 := hw
  refine lv_if_eq (tgt := 22) hx hb dX3_pairRefusal_8 (by decide) (fun c_4 => ?_) (fun c_4 => ?_)
  · have tc_4 := b_eq rfl (show (0 : Int32).toInt = 0 by decide) c_4
    refine lv_iconst (v := (-1)) hx hb dX3_pairRefusal_22 (by decide) ?_
    exact ret_i (post := (fun (r : Int32) (u : Unit) => r.toInt = -1)) (W1 := (fun u => [(h0, .inr (3, [.ref tx, .int le, .ref td, .ref dr, .ref nw, .ref ac, .int fa, .int an, .ref kp, .int ks, .ref sp, .ref ss, .ref sy, .int sc, .long sd, .ref tr, .ref ia])), (td, .inr (0, [.int 0, .int ltk, .ref lho, .ref lli, .ref lki, .ref lfd, .ref lfr, .ref lto, .ref lse, .ref lhl]))])) () hx hb hr hlocks rfl hQ hK hP hD hS ⟨by decide, by decide⟩ dX3_pairRefusal_23 (show (-1 : Int) = -1 by omega)
  · have tc_4 := b_ne rfl (show (0 : Int32).toInt = 0 by decide) c_4
    exfalso; omega

set_option maxHeartbeats 600000 in
set_option maxRecDepth 100000 in
theorem c_X3_meet0 (l : Launch) (D : va_G) (cI cZ cM : ClassId) (h0 : Nat) (n : Int32) (k : Int32) (tx : Nat) (le : Int32) (td : Nat) (dr : Nat) (nw : Nat) (ac : Nat) (fa : Int32) (an : Int32) (kp : Nat) (ks : Int32) (sp : Nat) (ss : Nat) (sy : Nat) (sc : Int32) (sd : Int64) (tr : Nat) (ia : Nat) (ltk : Int32) (lho : Nat) (lli : Nat) (lki : Nat) (lfd : Nat) (lfr : Nat) (lto : Nat) (lse : Nat) (lhl : Nat) (sz : Nat)  : Ci l yX3_meet wsX3_meet ({ frames := 2, cells := 0, slots := 0, locals := 43 } : Room) D cI cZ cM [.ref h0, .int n, .int k] [(h0, .inr (3, [.ref tx, .int le, .ref td, .ref dr, .ref nw, .ref ac, .int fa, .int an, .ref kp, .int ks, .ref sp, .ref ss, .ref sy, .int sc, .long sd, .ref tr, .ref ia])), (td, .inr (0, [.int 0, .int ltk, .ref lho, .ref lli, .ref lki, .ref lfd, .ref lfr, .ref lto, .ref lse, .ref lhl]))] sz (fun (r : Int32) (u : Unit) => r.toInt = -1) (fun u => [(h0, .inr (3, [.ref tx, .int le, .ref td, .ref dr, .ref nw, .ref ac, .int fa, .int an, .ref kp, .int ks, .ref sp, .ref ss, .ref sy, .int sc, .long sd, .ref tr, .ref ia])), (td, .inr (0, [.int 0, .int ltk, .ref lho, .ref lli, .ref lki, .ref lfd, .ref lfr, .ref lto, .ref lse, .ref lhl]))]) 0 0 := by
  refine begins (l := l) (y := yX3_meet) (ws := wsX3_meet) (av := [.ref h0, .int n, .int k]) (Qc := fun A => va_Qi (fun (r : Int32) (u : Unit) => r.toInt = -1) (fun u => Wd D cI cZ cM A ((fun u => [(h0, .inr (3, [.ref tx, .int le, .ref td, .ref dr, .ref nw, .ref ac, .int fa, .int an, .ref kp, .int ks, .ref sp, .ref ss, .ref sy, .int sc, .long sd, .ref tr, .ref ia])), (td, .inr (0, [.int 0, .int ltk, .ref lho, .ref lli, .ref lki, .ref lfd, .ref lfr, .ref lto, .ref lse, .ref lhl]))]) u)) A) cX3_meet 4 (some .int) (by decide) rfl (Nat.le_of_ble_eq_true rfl) ?_
  intro p e s m args below meth c R Q A ls hBd hR hQ hA hS hK hP hD hl
  obtain ⟨hx, hb, hr, hts, hown, hlocks, hin, hml⟩ := hBd
  have hl : lv_has ls 4 [(0, .ref h0), (1, .int n), (2, .int k)] := hl
  have iX3 : ∀ w ∈ wsX30, w ∈ wsX3_meet := fun _ h => List.mem_cons_of_mem _ (List.mem_append_left _ (List.mem_append_left _ (List.mem_append_left _ (List.mem_append_right _ h))))
  have iX0 : ∀ w ∈ wsX00, w ∈ wsX3_meet := fun _ h => List.mem_cons_of_mem _ (List.mem_append_left _ (List.mem_append_left _ (List.mem_append_right _ h)))
  have iX2 : ∀ w ∈ wsX20, w ∈ wsX3_meet := fun _ h => List.mem_cons_of_mem _ (List.mem_append_left _ (List.mem_append_right _ h))
  have iX1 : ∀ w ∈ wsX10, w ∈ wsX3_meet := fun _ h => List.mem_cons_of_mem _ (List.mem_append_right _ h)
  refine lv_aload_n hx hb dX3_meet_0 rfl (lv_at hl 0 rfl) ?_
  refine lv_iload_n hx hb dX3_meet_1 rfl (lv_at hl 1 rfl) ?_
  refine lv_iload_n hx hb dX3_meet_2 rfl (lv_at hl 2 rfl) ?_
  refine cV_i (As := [.int n, .int k]) (rest := []) ⟨hx, hb, hml, hown, hts⟩ (c_X3_pairRefusal0 l D cI cZ cM h0 n k tx le td dr nw ac fa an kp ks sp ss sy sc sd tr ia ltk lho lli lki lfd lfr lto lse lhl _ ) (cwV 2 hts gX3_meet_X3_pairRefusal rfl rfl rfl (by decide +kernel) ⟨by rw [hR]; decide, by rw [hR]; decide⟩) hK hP hD hS hA [0, 1] [] rfl rfl (by decide) (by decide) (by decide) rfl 0 rfl hl.1 rfl rfl (Nat.le_of_ble_eq_true rfl) dX3_meet_3 ⟨by rw [hR]; decide, by rw [hR]; decide⟩ (fun r_1 u_2 H locs hw hP hD hS => ?_)
  have hP : va_P D vwCl [(h0, .inr (3, [.ref tx, .int le, .ref td, .ref dr, .ref nw, .ref ac, .int fa, .int an, .ref kp, .int ks, .ref sp, .ref ss, .ref sy, .int sc, .long sd, .ref tr, .ref ia])), (td, .inr (0, [.int 0, .int ltk, .ref lho, .ref lli, .ref lki, .ref lfd, .ref lfr, .ref lto, .ref lse, .ref lhl]))] H := hP.sub [0, 1] rfl
  have hD : va_D A [(h0, .inr (3, [.ref tx, .int le, .ref td, .ref dr, .ref nw, .ref ac, .int fa, .int an, .ref kp, .int ks, .ref sp, .ref ss, .ref sy, .int sc, .long sd, .ref tr, .ref ia])), (td, .inr (0, [.int 0, .int ltk, .ref lho, .ref lli, .ref lki, .ref lfd, .ref lfr, .ref lto, .ref lse, .ref lhl]))] := hD.sub [0, 1] (by decide) rfl
  refine W.widen (k := 0) (n := 0) (Nat.le_refl _) (Nat.le_refl _) ?_
  have hw : r_1.toInt = -1 := hw
  have hw_3 := hw
  refine lv_istore_n (lv' := [(3, .int r_1), (0, .ref h0), (1, .int n), (2, .int k)]) hx hb dX3_meet_6 rfl hl (by decide) rfl (fun ls hl => ?_)
  refine lv_iload_n hx hb dX3_meet_7 rfl (lv_at hl 0 rfl) ?_
  refine lv_if_eq (tgt := 13) hx hb dX3_meet_8 (by decide) (fun c_4 => ?_) (fun c_4 => ?_)
  · have tc_4 := b_eq rfl (show (0 : Int32).toInt = 0 by decide) c_4
    exfalso; omega
  · have tc_4 := b_ne rfl (show (0 : Int32).toInt = 0 by decide) c_4
    refine lv_iload_n hx hb dX3_meet_11 rfl (lv_at hl 0 rfl) ?_
    exact ret_i (post := (fun (r : Int32) (u : Unit) => r.toInt = -1)) (W1 := (fun u => [(h0, .inr (3, [.ref tx, .int le, .ref td, .ref dr, .ref nw, .ref ac, .int fa, .int an, .ref kp, .int ks, .ref sp, .ref ss, .ref sy, .int sc, .long sd, .ref tr, .ref ia])), (td, .inr (0, [.int 0, .int ltk, .ref lho, .ref lli, .ref lki, .ref lfd, .ref lfr, .ref lto, .ref lse, .ref lhl]))])) () hx hb hr hlocks rfl hQ hK hP hD hS ⟨by decide, by decide⟩ dX3_meet_12 (show r_1.toInt = -1 by omega)

set_option maxHeartbeats 600000 in
set_option maxRecDepth 100000 in
theorem c_X3_fewest0 (l : Launch) (D : va_G) (cI cZ cM : ClassId) (h0 : Nat) (n : Int32) (k : Int32) (z : Int32) (tx : Nat) (le : Int32) (td : Nat) (dr : Nat) (nw : Nat) (ac : Nat) (fa : Int32) (an : Int32) (kp : Nat) (ks : Int32) (sp : Nat) (ss : Nat) (sy : Nat) (sc : Int32) (sd : Int64) (tr : Nat) (ia : Nat) (ltk : Int32) (lho : Nat) (lli : Nat) (lki : Nat) (lfd : Nat) (lfr : Nat) (lto : Nat) (lse : Nat) (lhl : Nat) (sz : Nat)  : Ci l yX3_fewest wsX3_fewest ({ frames := 2, cells := 0, slots := 0, locals := 43 } : Room) D cI cZ cM [.ref h0, .int n, .int k, .int z] [(h0, .inr (3, [.ref tx, .int le, .ref td, .ref dr, .ref nw, .ref ac, .int fa, .int an, .ref kp, .int ks, .ref sp, .ref ss, .ref sy, .int sc, .long sd, .ref tr, .ref ia])), (td, .inr (0, [.int 0, .int ltk, .ref lho, .ref lli, .ref lki, .ref lfd, .ref lfr, .ref lto, .ref lse, .ref lhl]))] sz (fun (r : Int32) (u : Unit) => r.toInt = -1) (fun u => [(h0, .inr (3, [.ref tx, .int le, .ref td, .ref dr, .ref nw, .ref ac, .int fa, .int an, .ref kp, .int ks, .ref sp, .ref ss, .ref sy, .int sc, .long sd, .ref tr, .ref ia])), (td, .inr (0, [.int 0, .int ltk, .ref lho, .ref lli, .ref lki, .ref lfd, .ref lfr, .ref lto, .ref lse, .ref lhl]))]) 0 0 := by
  refine begins (l := l) (y := yX3_fewest) (ws := wsX3_fewest) (av := [.ref h0, .int n, .int k, .int z]) (Qc := fun A => va_Qi (fun (r : Int32) (u : Unit) => r.toInt = -1) (fun u => Wd D cI cZ cM A ((fun u => [(h0, .inr (3, [.ref tx, .int le, .ref td, .ref dr, .ref nw, .ref ac, .int fa, .int an, .ref kp, .int ks, .ref sp, .ref ss, .ref sy, .int sc, .long sd, .ref tr, .ref ia])), (td, .inr (0, [.int 0, .int ltk, .ref lho, .ref lli, .ref lki, .ref lfd, .ref lfr, .ref lto, .ref lse, .ref lhl]))]) u)) A) cX3_fewest 7 (some .int) (by decide) rfl (Nat.le_of_ble_eq_true rfl) ?_
  intro p e s m args below meth c R Q A ls hBd hR hQ hA hS hK hP hD hl
  obtain ⟨hx, hb, hr, hts, hown, hlocks, hin, hml⟩ := hBd
  have hl : lv_has ls 7 [(0, .ref h0), (1, .int n), (2, .int k), (3, .int z)] := hl
  have iX3 : ∀ w ∈ wsX30, w ∈ wsX3_fewest := fun _ h => List.mem_cons_of_mem _ (List.mem_append_left _ (List.mem_append_left _ (List.mem_append_left _ (List.mem_append_right _ h))))
  have iX0 : ∀ w ∈ wsX00, w ∈ wsX3_fewest := fun _ h => List.mem_cons_of_mem _ (List.mem_append_left _ (List.mem_append_left _ (List.mem_append_right _ h)))
  have iX2 : ∀ w ∈ wsX20, w ∈ wsX3_fewest := fun _ h => List.mem_cons_of_mem _ (List.mem_append_left _ (List.mem_append_right _ h))
  have iX1 : ∀ w ∈ wsX10, w ∈ wsX3_fewest := fun _ h => List.mem_cons_of_mem _ (List.mem_append_right _ h)
  refine lv_aload_n hx hb dX3_fewest_0 rfl (lv_at hl 0 rfl) ?_
  refine lv_iload_n hx hb dX3_fewest_1 rfl (lv_at hl 1 rfl) ?_
  refine lv_iload_n hx hb dX3_fewest_2 rfl (lv_at hl 2 rfl) ?_
  refine cV_i (As := [.int n, .int k]) (rest := []) ⟨hx, hb, hml, hown, hts⟩ (c_X3_pairRefusal0 l D cI cZ cM h0 n k tx le td dr nw ac fa an kp ks sp ss sy sc sd tr ia ltk lho lli lki lfd lfr lto lse lhl _ ) (cwV 2 hts gX3_fewest_X3_pairRefusal rfl rfl rfl (by decide +kernel) ⟨by rw [hR]; decide, by rw [hR]; decide⟩) hK hP hD hS hA [0, 1] [] rfl rfl (by decide) (by decide) (by decide) rfl 0 rfl hl.1 rfl rfl (Nat.le_of_ble_eq_true rfl) dX3_fewest_3 ⟨by rw [hR]; decide, by rw [hR]; decide⟩ (fun r_1 u_2 H locs hw hP hD hS => ?_)
  have hP : va_P D vwCl [(h0, .inr (3, [.ref tx, .int le, .ref td, .ref dr, .ref nw, .ref ac, .int fa, .int an, .ref kp, .int ks, .ref sp, .ref ss, .ref sy, .int sc, .long sd, .ref tr, .ref ia])), (td, .inr (0, [.int 0, .int ltk, .ref lho, .ref lli, .ref lki, .ref lfd, .ref lfr, .ref lto, .ref lse, .ref lhl]))] H := hP.sub [0, 1] rfl
  have hD : va_D A [(h0, .inr (3, [.ref tx, .int le, .ref td, .ref dr, .ref nw, .ref ac, .int fa, .int an, .ref kp, .int ks, .ref sp, .ref ss, .ref sy, .int sc, .long sd, .ref tr, .ref ia])), (td, .inr (0, [.int 0, .int ltk, .ref lho, .ref lli, .ref lki, .ref lfd, .ref lfr, .ref lto, .ref lse, .ref lhl]))] := hD.sub [0, 1] (by decide) rfl
  refine W.widen (k := 0) (n := 0) (Nat.le_refl _) (Nat.le_refl _) ?_
  have hw : r_1.toInt = -1 := hw
  have hw_3 := hw
  refine lv_istore (lv' := [(4, .int r_1), (0, .ref h0), (1, .int n), (2, .int k), (3, .int z)]) hx hb dX3_fewest_6 hl (by decide) rfl (fun ls hl => ?_)
  refine lv_iload hx hb dX3_fewest_8 (lv_at hl 0 rfl) ?_
  refine lv_if_eq (tgt := 16) hx hb dX3_fewest_10 (by decide) (fun c_4 => ?_) (fun c_4 => ?_)
  · have tc_4 := b_eq rfl (show (0 : Int32).toInt = 0 by decide) c_4
    exfalso; omega
  · have tc_4 := b_ne rfl (show (0 : Int32).toInt = 0 by decide) c_4
    refine lv_iload hx hb dX3_fewest_13 (lv_at hl 0 rfl) ?_
    exact ret_i (post := (fun (r : Int32) (u : Unit) => r.toInt = -1)) (W1 := (fun u => [(h0, .inr (3, [.ref tx, .int le, .ref td, .ref dr, .ref nw, .ref ac, .int fa, .int an, .ref kp, .int ks, .ref sp, .ref ss, .ref sy, .int sc, .long sd, .ref tr, .ref ia])), (td, .inr (0, [.int 0, .int ltk, .ref lho, .ref lli, .ref lki, .ref lfd, .ref lfr, .ref lto, .ref lse, .ref lhl]))])) () hx hb hr hlocks rfl hQ hK hP hD hS ⟨by decide, by decide⟩ dX3_fewest_15 (show r_1.toInt = -1 by omega)
end
