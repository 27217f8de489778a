section
-- ===== PART A: goes FIRST, ahead of the names: the tables' words, and 'selects' of the private methods out of them =====
/-- a private method of a class that the tables say can be made, by its rows of tables_1 -/
def lw_okq (q : MethodName × Nat) : Prop := (q.1.cls ≠ "java/lang/invoke/MethodHandle" ∧ q.1.cls ≠ "java/lang/invoke/VarHandle") ∧ Cond.instantiable q.1.cls q.2 ∈ tables_1 ∧ Cond.privateMethod q.1 ∈ tables_1 ∧ Cond.instanceMethod q.1 ∈ tables_1
theorem lw_p0 : lw_okq (⟨"java/lang/Throwable", "fillInStackTrace", "(I)Ljava/lang/Throwable;"⟩, 6) := ⟨⟨by decide +kernel, by decide +kernel⟩, List.mem_of_getElem? (i := 177) (by decide +kernel), List.mem_of_getElem? (i := 175) (by decide +kernel), List.mem_of_getElem? (i := 176) (by decide +kernel)⟩
theorem lw_p1 : lw_okq (⟨"java/util/ArrayList", "add", "(Ljava/lang/Object;[Ljava/lang/Object;I)V"⟩, 3) := ⟨⟨by decide +kernel, by decide +kernel⟩, List.mem_of_getElem? (i := 29) (by decide +kernel), List.mem_of_getElem? (i := 288) (by decide +kernel), List.mem_of_getElem? (i := 289) (by decide +kernel)⟩
theorem lw_p2 : lw_okq (⟨"java/util/ArrayList", "grow", "()[Ljava/lang/Object;"⟩, 3) := ⟨⟨by decide +kernel, by decide +kernel⟩, List.mem_of_getElem? (i := 29) (by decide +kernel), List.mem_of_getElem? (i := 292) (by decide +kernel), List.mem_of_getElem? (i := 293) (by decide +kernel)⟩
theorem lw_p3 : lw_okq (⟨"java/util/ArrayList", "grow", "(I)[Ljava/lang/Object;"⟩, 3) := ⟨⟨by decide +kernel, by decide +kernel⟩, List.mem_of_getElem? (i := 29) (by decide +kernel), List.mem_of_getElem? (i := 296) (by decide +kernel), List.mem_of_getElem? (i := 297) (by decide +kernel)⟩
theorem lw_p4 : lw_okq (⟨"HumpYard", "goOnTurning", "()V"⟩, 16) := ⟨⟨by decide +kernel, by decide +kernel⟩, List.mem_of_getElem? (i := 21) (by decide +kernel), List.mem_of_getElem? (i := 399) (by decide +kernel), List.mem_of_getElem? (i := 400) (by decide +kernel)⟩
theorem lw_p5 : lw_okq (⟨"HumpYard", "beginTurning", "()V"⟩, 16) := ⟨⟨by decide +kernel, by decide +kernel⟩, List.mem_of_getElem? (i := 21) (by decide +kernel), List.mem_of_getElem? (i := 403) (by decide +kernel), List.mem_of_getElem? (i := 404) (by decide +kernel)⟩
theorem lw_p6 : lw_okq (⟨"HumpYard", "isBusy", "(I)Z"⟩, 16) := ⟨⟨by decide +kernel, by decide +kernel⟩, List.mem_of_getElem? (i := 21) (by decide +kernel), List.mem_of_getElem? (i := 407) (by decide +kernel), List.mem_of_getElem? (i := 408) (by decide +kernel)⟩
theorem lw_p7 : lw_okq (⟨"HumpYard", "firstBoundFor", "(I)LHumpYard$Cut;"⟩, 16) := ⟨⟨by decide +kernel, by decide +kernel⟩, List.mem_of_getElem? (i := 21) (by decide +kernel), List.mem_of_getElem? (i := 442) (by decide +kernel), List.mem_of_getElem? (i := 443) (by decide +kernel)⟩
theorem lw_p8 : lw_okq (⟨"HumpYard", "rollAll", "()V"⟩, 16) := ⟨⟨by decide +kernel, by decide +kernel⟩, List.mem_of_getElem? (i := 21) (by decide +kernel), List.mem_of_getElem? (i := 458) (by decide +kernel), List.mem_of_getElem? (i := 459) (by decide +kernel)⟩
theorem lw_p9 : lw_okq (⟨"HumpYard", "acceleration", "(LHumpYard$Cut;)D"⟩, 16) := ⟨⟨by decide +kernel, by decide +kernel⟩, List.mem_of_getElem? (i := 21) (by decide +kernel), List.mem_of_getElem? (i := 462) (by decide +kernel), List.mem_of_getElem? (i := 463) (by decide +kernel)⟩
theorem lw_p10 : lw_okq (⟨"HumpYard", "brakeSteps", "(LHumpYard$Cut;II)I"⟩, 16) := ⟨⟨by decide +kernel, by decide +kernel⟩, List.mem_of_getElem? (i := 21) (by decide +kernel), List.mem_of_getElem? (i := 477) (by decide +kernel), List.mem_of_getElem? (i := 478) (by decide +kernel)⟩
theorem lw_p11 : lw_okq (⟨"HumpYard", "passPoints", "(LHumpYard$Cut;D)V"⟩, 16) := ⟨⟨by decide +kernel, by decide +kernel⟩, List.mem_of_getElem? (i := 21) (by decide +kernel), List.mem_of_getElem? (i := 487) (by decide +kernel), List.mem_of_getElem? (i := 488) (by decide +kernel)⟩
theorem lw_p12 : lw_okq (⟨"HumpYard", "pass", "(LHumpYard$Cut;I)V"⟩, 16) := ⟨⟨by decide +kernel, by decide +kernel⟩, List.mem_of_getElem? (i := 21) (by decide +kernel), List.mem_of_getElem? (i := 491) (by decide +kernel), List.mem_of_getElem? (i := 492) (by decide +kernel)⟩
theorem lw_p13 : lw_okq (⟨"HumpYard", "catchAll", "()V"⟩, 16) := ⟨⟨by decide +kernel, by decide +kernel⟩, List.mem_of_getElem? (i := 21) (by decide +kernel), List.mem_of_getElem? (i := 503) (by decide +kernel), List.mem_of_getElem? (i := 504) (by decide +kernel)⟩
theorem lw_p14 : lw_okq (⟨"HumpYard", "aheadOf", "(ILHumpYard$Cut;)LHumpYard$Cut;"⟩, 16) := ⟨⟨by decide +kernel, by decide +kernel⟩, List.mem_of_getElem? (i := 21) (by decide +kernel), List.mem_of_getElem? (i := 507) (by decide +kernel), List.mem_of_getElem? (i := 508) (by decide +kernel)⟩
theorem lw_p15 : lw_okq (⟨"HumpYard", "catchUp", "(LHumpYard$Cut;LHumpYard$Cut;)V"⟩, 16) := ⟨⟨by decide +kernel, by decide +kernel⟩, List.mem_of_getElem? (i := 21) (by decide +kernel), List.mem_of_getElem? (i := 511) (by decide +kernel), List.mem_of_getElem? (i := 512) (by decide +kernel)⟩
def lw_privs_1 : List (MethodName × Nat) := [(⟨"java/lang/Throwable", "fillInStackTrace", "(I)Ljava/lang/Throwable;"⟩, 6), (⟨"java/util/ArrayList", "add", "(Ljava/lang/Object;[Ljava/lang/Object;I)V"⟩, 3), (⟨"java/util/ArrayList", "grow", "()[Ljava/lang/Object;"⟩, 3), (⟨"java/util/ArrayList", "grow", "(I)[Ljava/lang/Object;"⟩, 3), (⟨"HumpYard", "goOnTurning", "()V"⟩, 16), (⟨"HumpYard", "beginTurning", "()V"⟩, 16), (⟨"HumpYard", "isBusy", "(I)Z"⟩, 16), (⟨"HumpYard", "firstBoundFor", "(I)LHumpYard$Cut;"⟩, 16), (⟨"HumpYard", "rollAll", "()V"⟩, 16), (⟨"HumpYard", "acceleration", "(LHumpYard$Cut;)D"⟩, 16), (⟨"HumpYard", "brakeSteps", "(LHumpYard$Cut;II)I"⟩, 16), (⟨"HumpYard", "passPoints", "(LHumpYard$Cut;D)V"⟩, 16), (⟨"HumpYard", "pass", "(LHumpYard$Cut;I)V"⟩, 16), (⟨"HumpYard", "catchAll", "()V"⟩, 16), (⟨"HumpYard", "aheadOf", "(ILHumpYard$Cut;)LHumpYard$Cut;"⟩, 16), (⟨"HumpYard", "catchUp", "(LHumpYard$Cut;LHumpYard$Cut;)V"⟩, 16)]
theorem lw_r1 : ∀ q ∈ lw_privs_1, lw_okq q := List.forall_mem_cons.mpr ⟨lw_p0, List.forall_mem_cons.mpr ⟨lw_p1, List.forall_mem_cons.mpr ⟨lw_p2, List.forall_mem_cons.mpr ⟨lw_p3, List.forall_mem_cons.mpr ⟨lw_p4, List.forall_mem_cons.mpr ⟨lw_p5, List.forall_mem_cons.mpr ⟨lw_p6, List.forall_mem_cons.mpr ⟨lw_p7, List.forall_mem_cons.mpr ⟨lw_p8, List.forall_mem_cons.mpr ⟨lw_p9, List.forall_mem_cons.mpr ⟨lw_p10, List.forall_mem_cons.mpr ⟨lw_p11, List.forall_mem_cons.mpr ⟨lw_p12, List.forall_mem_cons.mpr ⟨lw_p13, List.forall_mem_cons.mpr ⟨lw_p14, List.forall_mem_cons.mpr ⟨lw_p15, fun _ h => absurd h List.not_mem_nil⟩⟩⟩⟩⟩⟩⟩⟩⟩⟩⟩⟩⟩⟩⟩⟩
theorem lw_p16 : lw_okq (⟨"HumpYard", "endAll", "()V"⟩, 16) := ⟨⟨by decide +kernel, by decide +kernel⟩, List.mem_of_getElem? (i := 21) (by decide +kernel), List.mem_of_getElem? (i := 515) (by decide +kernel), List.mem_of_getElem? (i := 516) (by decide +kernel)⟩
theorem lw_p17 : lw_okq (⟨"HumpYard", "endOnTrack", "(LHumpYard$Cut;I)V"⟩, 16) := ⟨⟨by decide +kernel, by decide +kernel⟩, List.mem_of_getElem? (i := 21) (by decide +kernel), List.mem_of_getElem? (i := 519) (by decide +kernel), List.mem_of_getElem? (i := 520) (by decide +kernel)⟩
theorem lw_p18 : lw_okq (⟨"HumpYard", "land", "(LHumpYard$Cut;I)V"⟩, 16) := ⟨⟨by decide +kernel, by decide +kernel⟩, List.mem_of_getElem? (i := 21) (by decide +kernel), List.mem_of_getElem? (i := 523) (by decide +kernel), List.mem_of_getElem? (i := 524) (by decide +kernel)⟩
theorem lw_p19 : lw_okq (⟨"HumpYard", "enterSiding", "(LHumpYard$Cut;I)V"⟩, 16) := ⟨⟨by decide +kernel, by decide +kernel⟩, List.mem_of_getElem? (i := 21) (by decide +kernel), List.mem_of_getElem? (i := 527) (by decide +kernel), List.mem_of_getElem? (i := 528) (by decide +kernel)⟩
theorem lw_p20 : lw_okq (⟨"HumpYard", "stand", "(LHumpYard$Cut;I)V"⟩, 16) := ⟨⟨by decide +kernel, by decide +kernel⟩, List.mem_of_getElem? (i := 21) (by decide +kernel), List.mem_of_getElem? (i := 531) (by decide +kernel), List.mem_of_getElem? (i := 532) (by decide +kernel)⟩
theorem lw_p21 : lw_okq (⟨"java/util/ArrayList", "fastRemove", "([Ljava/lang/Object;I)V"⟩, 3) := ⟨⟨by decide +kernel, by decide +kernel⟩, List.mem_of_getElem? (i := 29) (by decide +kernel), List.mem_of_getElem? (i := 539) (by decide +kernel), List.mem_of_getElem? (i := 540) (by decide +kernel)⟩
theorem lw_p22 : lw_okq (⟨"HumpYard", "pushNext", "()V"⟩, 16) := ⟨⟨by decide +kernel, by decide +kernel⟩, List.mem_of_getElem? (i := 21) (by decide +kernel), List.mem_of_getElem? (i := 544) (by decide +kernel), List.mem_of_getElem? (i := 545) (by decide +kernel)⟩
theorem lw_p23 : lw_okq (⟨"HumpYard", "isCrestClear", "()Z"⟩, 16) := ⟨⟨by decide +kernel, by decide +kernel⟩, List.mem_of_getElem? (i := 21) (by decide +kernel), List.mem_of_getElem? (i := 548) (by decide +kernel), List.mem_of_getElem? (i := 549) (by decide +kernel)⟩
theorem lw_p24 : lw_okq (⟨"HumpYard", "cutOf", "(I)LHumpYard$Cut;"⟩, 16) := ⟨⟨by decide +kernel, by decide +kernel⟩, List.mem_of_getElem? (i := 21) (by decide +kernel), List.mem_of_getElem? (i := 559) (by decide +kernel), List.mem_of_getElem? (i := 560) (by decide +kernel)⟩
theorem lw_p25 : lw_okq (⟨"HumpYardModel", "refuses", "(I)Z"⟩, 24) := ⟨⟨by decide +kernel, by decide +kernel⟩, List.mem_of_getElem? (i := 619) (by decide +kernel), List.mem_of_getElem? (i := 712) (by decide +kernel), List.mem_of_getElem? (i := 713) (by decide +kernel)⟩
theorem lw_p26 : lw_okq (⟨"HumpYardModel", "points", "()V"⟩, 24) := ⟨⟨by decide +kernel, by decide +kernel⟩, List.mem_of_getElem? (i := 619) (by decide +kernel), List.mem_of_getElem? (i := 739) (by decide +kernel), List.mem_of_getElem? (i := 740) (by decide +kernel)⟩
theorem lw_p27 : lw_okq (⟨"HumpYardModel", "isBusy", "(I)Z"⟩, 24) := ⟨⟨by decide +kernel, by decide +kernel⟩, List.mem_of_getElem? (i := 619) (by decide +kernel), List.mem_of_getElem? (i := 743) (by decide +kernel), List.mem_of_getElem? (i := 744) (by decide +kernel)⟩
theorem lw_p28 : lw_okq (⟨"HumpYardModel", "goesBy", "(II)Z"⟩, 24) := ⟨⟨by decide +kernel, by decide +kernel⟩, List.mem_of_getElem? (i := 619) (by decide +kernel), List.mem_of_getElem? (i := 747) (by decide +kernel), List.mem_of_getElem? (i := 748) (by decide +kernel)⟩
theorem lw_p29 : lw_okq (⟨"HumpYardModel", "rear", "(I)D"⟩, 24) := ⟨⟨by decide +kernel, by decide +kernel⟩, List.mem_of_getElem? (i := 619) (by decide +kernel), List.mem_of_getElem? (i := 763) (by decide +kernel), List.mem_of_getElem? (i := 764) (by decide +kernel)⟩
theorem lw_p30 : lw_okq (⟨"HumpYardModel", "bound", "(I)I"⟩, 24) := ⟨⟨by decide +kernel, by decide +kernel⟩, List.mem_of_getElem? (i := 619) (by decide +kernel), List.mem_of_getElem? (i := 769) (by decide +kernel), List.mem_of_getElem? (i := 770) (by decide +kernel)⟩
theorem lw_p31 : lw_okq (⟨"HumpYardModel", "rolls", "(I)V"⟩, 24) := ⟨⟨by decide +kernel, by decide +kernel⟩, List.mem_of_getElem? (i := 619) (by decide +kernel), List.mem_of_getElem? (i := 776) (by decide +kernel), List.mem_of_getElem? (i := 777) (by decide +kernel)⟩
def lw_privs_2 : List (MethodName × Nat) := [(⟨"HumpYard", "endAll", "()V"⟩, 16), (⟨"HumpYard", "endOnTrack", "(LHumpYard$Cut;I)V"⟩, 16), (⟨"HumpYard", "land", "(LHumpYard$Cut;I)V"⟩, 16), (⟨"HumpYard", "enterSiding", "(LHumpYard$Cut;I)V"⟩, 16), (⟨"HumpYard", "stand", "(LHumpYard$Cut;I)V"⟩, 16), (⟨"java/util/ArrayList", "fastRemove", "([Ljava/lang/Object;I)V"⟩, 3), (⟨"HumpYard", "pushNext", "()V"⟩, 16), (⟨"HumpYard", "isCrestClear", "()Z"⟩, 16), (⟨"HumpYard", "cutOf", "(I)LHumpYard$Cut;"⟩, 16), (⟨"HumpYardModel", "refuses", "(I)Z"⟩, 24), (⟨"HumpYardModel", "points", "()V"⟩, 24), (⟨"HumpYardModel", "isBusy", "(I)Z"⟩, 24), (⟨"HumpYardModel", "goesBy", "(II)Z"⟩, 24), (⟨"HumpYardModel", "rear", "(I)D"⟩, 24), (⟨"HumpYardModel", "bound", "(I)I"⟩, 24), (⟨"HumpYardModel", "rolls", "(I)V"⟩, 24)]
theorem lw_r2 : ∀ q ∈ lw_privs_2, lw_okq q := List.forall_mem_cons.mpr ⟨lw_p16, List.forall_mem_cons.mpr ⟨lw_p17, List.forall_mem_cons.mpr ⟨lw_p18, List.forall_mem_cons.mpr ⟨lw_p19, List.forall_mem_cons.mpr ⟨lw_p20, List.forall_mem_cons.mpr ⟨lw_p21, List.forall_mem_cons.mpr ⟨lw_p22, List.forall_mem_cons.mpr ⟨lw_p23, List.forall_mem_cons.mpr ⟨lw_p24, List.forall_mem_cons.mpr ⟨lw_p25, List.forall_mem_cons.mpr ⟨lw_p26, List.forall_mem_cons.mpr ⟨lw_p27, List.forall_mem_cons.mpr ⟨lw_p28, List.forall_mem_cons.mpr ⟨lw_p29, List.forall_mem_cons.mpr ⟨lw_p30, List.forall_mem_cons.mpr ⟨lw_p31, fun _ h => absurd h List.not_mem_nil⟩⟩⟩⟩⟩⟩⟩⟩⟩⟩⟩⟩⟩⟩⟩⟩
theorem lw_p32 : lw_okq (⟨"HumpYardModel", "brakes", "(II)D"⟩, 24) := ⟨⟨by decide +kernel, by decide +kernel⟩, List.mem_of_getElem? (i := 619) (by decide +kernel), List.mem_of_getElem? (i := 787) (by decide +kernel), List.mem_of_getElem? (i := 788) (by decide +kernel)⟩
theorem lw_p33 : lw_okq (⟨"HumpYardModel", "notes", "(III)V"⟩, 24) := ⟨⟨by decide +kernel, by decide +kernel⟩, List.mem_of_getElem? (i := 619) (by decide +kernel), List.mem_of_getElem? (i := 798) (by decide +kernel), List.mem_of_getElem? (i := 799) (by decide +kernel)⟩
theorem lw_p34 : lw_okq (⟨"HumpYardModel", "catches", "(I)V"⟩, 24) := ⟨⟨by decide +kernel, by decide +kernel⟩, List.mem_of_getElem? (i := 619) (by decide +kernel), List.mem_of_getElem? (i := 802) (by decide +kernel), List.mem_of_getElem? (i := 803) (by decide +kernel)⟩
theorem lw_p35 : lw_okq (⟨"HumpYardModel", "ahead", "(I)I"⟩, 24) := ⟨⟨by decide +kernel, by decide +kernel⟩, List.mem_of_getElem? (i := 619) (by decide +kernel), List.mem_of_getElem? (i := 806) (by decide +kernel), List.mem_of_getElem? (i := 807) (by decide +kernel)⟩
theorem lw_p36 : lw_okq (⟨"HumpYardModel", "ends", "(I)V"⟩, 24) := ⟨⟨by decide +kernel, by decide +kernel⟩, List.mem_of_getElem? (i := 619) (by decide +kernel), List.mem_of_getElem? (i := 810) (by decide +kernel), List.mem_of_getElem? (i := 811) (by decide +kernel)⟩
theorem lw_p37 : lw_okq (⟨"HumpYardModel", "pushes", "()V"⟩, 24) := ⟨⟨by decide +kernel, by decide +kernel⟩, List.mem_of_getElem? (i := 619) (by decide +kernel), List.mem_of_getElem? (i := 814) (by decide +kernel), List.mem_of_getElem? (i := 815) (by decide +kernel)⟩
theorem lw_p38 : lw_okq (⟨"HumpYardModel", "isCut", "(I)Z"⟩, 24) := ⟨⟨by decide +kernel, by decide +kernel⟩, List.mem_of_getElem? (i := 619) (by decide +kernel), List.mem_of_getElem? (i := 822) (by decide +kernel), List.mem_of_getElem? (i := 823) (by decide +kernel)⟩
def lw_privs_3 : List (MethodName × Nat) := [(⟨"HumpYardModel", "brakes", "(II)D"⟩, 24), (⟨"HumpYardModel", "notes", "(III)V"⟩, 24), (⟨"HumpYardModel", "catches", "(I)V"⟩, 24), (⟨"HumpYardModel", "ahead", "(I)I"⟩, 24), (⟨"HumpYardModel", "ends", "(I)V"⟩, 24), (⟨"HumpYardModel", "pushes", "()V"⟩, 24), (⟨"HumpYardModel", "isCut", "(I)Z"⟩, 24)]
theorem lw_r3 : ∀ q ∈ lw_privs_3, lw_okq q := List.forall_mem_cons.mpr ⟨lw_p32, List.forall_mem_cons.mpr ⟨lw_p33, List.forall_mem_cons.mpr ⟨lw_p34, List.forall_mem_cons.mpr ⟨lw_p35, List.forall_mem_cons.mpr ⟨lw_p36, List.forall_mem_cons.mpr ⟨lw_p37, List.forall_mem_cons.mpr ⟨lw_p38, fun _ h => absurd h List.not_mem_nil⟩⟩⟩⟩⟩⟩⟩
def lw_privs : List (MethodName × Nat) := lw_privs_1 ++ (lw_privs_2 ++ (lw_privs_3))
def lw_tbl : List Cond := k2_sels lw_privs ++ tables_1
theorem lw_privs_ok : ∀ q ∈ lw_privs, lw_okq q := by
  show ∀ q ∈ lw_privs_1 ++ (lw_privs_2 ++ (lw_privs_3)), lw_okq q
  exact List.forall_mem_append.mpr ⟨lw_r1, List.forall_mem_append.mpr ⟨lw_r2, lw_r3⟩⟩
/-! ===== BEGIN words of one list among another's, by their places ===== -/
theorem goodIn_r {big : List Cond} (ws : List Cond) (ps : List Nat) (hp : ws = ps.filterMap (fun i => big[i]?)) (h : ws.all goodWord = true) : GoodIn big ws := by
  intro w hw
  have h1 := List.all_eq_true.mp h w hw
  rw [hp] at hw
  obtain ⟨i, -, hi⟩ := List.mem_filterMap.mp hw
  have hm : w ∈ big := by first | exact List.mem_of_getElem? hi | exact List.getElem?_mem hi
  exact ⟨hm, good_of_word h1⟩
theorem goodIn_app {big a b : List Cond} (ha : GoodIn big a) (hb : GoodIn big b) : GoodIn big (a ++ b) := fun w h => (List.mem_append.mp h).elim (ha w) (hb w)
theorem goodIn_ca {big a b : List Cond} {c : Cond} (ha : GoodIn big (c :: a)) (hb : GoodIn big b) : GoodIn big (c :: (a ++ b)) := fun w h => (List.mem_cons.mp h).elim (fun e => ha w (List.mem_cons.mpr (Or.inl e))) (fun h => (List.mem_append.mp h).elim (fun h => ha w (List.mem_cons.mpr (Or.inr h))) (hb w))
theorem goodIn_sub {big ws : List Cond} (hm : ∀ w ∈ ws, w ∈ big) (h : ws.all goodWord = true) : GoodIn big ws := fun w hw => ⟨hm w hw, good_of_word (List.all_eq_true.mp h w hw)⟩
/-! ===== END ===== -/

/-! ===== BEGIN exceptions that leave a method, and their catching by the caller (launches without stack traces) ===== -/
section VXA
/-! The laws vx_back, vx_callV, vx_callS, vx_callSW, vx_throw0, vx_throwS follow proofs of the library, with one case more: JvmDerived/Free/Laws.lean (Back.of_free), Shelf42/LK1.lean (callV, callS), Shelf/KitTraced.lean (throwNew0V, throwNewS). -/
/-- where a method has thrown q: the class by its name, the cell, what was written, the world -/
def vx_T (XC : String → State → State → Prop) (st : State) (q : Addr) (t : State) (mc ms : Nat) (free : Addr → Prop) : Prop :=
  ∃ (E : String) (ce : Cell) (L : List Loc), XC E st t ∧ t.heap[q]? = some ce ∧ ce.vm = .none ∧ st.vm.findClass E = some ce.cls ∧ st.WarmedH t.vm ∧ st.sameButNew ({ t with vm := st.vm } : State) L mc ms ∧ ∀ z ∈ L, free z.base
def vx_Q (Qc : Array Value → State → Outcome → State → Prop) (XC : String → State → State → Prop) (mc ms : Nat) (free : Addr → Prop) : Array Value → State → Outcome → State → Prop := fun a st o t =>
  (Qc a st o t ∧ ∃ L, FrameEnd st o t L mc ms ∧ ∀ q ∈ L, free q.base) ∨ ∃ q, o = .threw q ∧ vx_T XC st q t mc ms free
/-- a callee that returns or throws -/
def vx_Met (l : Launch) (y : MethodName) (ws : List Cond) (rm : Room) (Pc : Array Value → State → Prop) (Qc : Array Value → State → Outcome → State → Prop) (XC : String → State → State → Prop) (mc ms : Nat) (free : Addr → Prop) : Prop :=
  MetFree l y (headSpec ws rm) Pc (fun _ _ _ _ _ => True) (vx_Q Qc XC mc ms free)
def vx_Post (XC : String → State → State → Prop) (mc ms : Nat) (free : Addr → Prop) : Pt → Array Value → Addr → Pt → Prop := fun A a q B =>
  ∃ (g : JFrame) (mk : MethodId) (t : State) (L : List Loc) (E : String) (ce : Cell), B.U.heap = t.heap ∧ B.U.vm = t.vm ∧ XC E (A.U.calling g mk a) t ∧ t.heap[q]? = some ce ∧ ce.vm = .none ∧ A.U.vm.findClass E = some ce.cls ∧ B.locs = A.locs ++ L ∧ (∀ z ∈ L, free z.base) ∧ B.cells = A.cells + mc ∧ B.slots = A.slots + ms
def vx_Back (l : Launch) (R : Room) (p : Program) (e : Env) (below : List Frame) (s : State) (sargs : Array Value) (y : MethodName) (len W9 : Nat)
    (Pre : Pt → Array Value → Prop) (Post : Pt → Array Value → Option Value → Pt → Prop) (PostX : Pt → Array Value → Addr → Pt → Prop) : Prop :=
  ∀ (m : MethodId) (meth : Method) (c : Code) (A : Pt) (g : JFrame) (ig : Instr) (mk : MethodId) (a : Array Value),
    Stand p l e R s m sargs below meth c A.U A.locs A.cells A.slots → g.method = m → g.locals.size = c.maxLocals → decode c.code g.pc = .ok (ig, len) →
    2 * g.monitorRoom + (g.stack.map fun v => v.category).sum ≤ W9 → A.U.methodNamed? y = some mk → Pre A a →
    (∃ (v : Option Value) (B : Pt), Stand p l e R s m sargs below meth c B.U B.locs B.cells B.slots ∧ Post A a v B ∧
      Steps p.tables e below (doInvoke e (A.U.setTop g) [] mk a).1 (B.U.setTop { g with pc := g.pc + len, stack := v.toList ++ g.stack })) ∨
    (∃ (q : Addr) (B : Pt), Stand p l e R s m sargs below meth c B.U B.locs B.cells B.slots ∧ PostX A a q B ∧
      Steps p.tables e below (doInvoke e (A.U.setTop g) [] mk a).1 ((B.U.setTop g).pushFrame (.throwing q)))
section Payer
variable {l : Launch} {R : Room} {p : Program} {e : Env} {below : List Frame} {s : State} {sargs : Array Value} {y : MethodName} {len W9 : Nat}
theorem vx_back {ws : List Cond} {rm : Room} {Pc : Array Value → State → Prop} {Qc : Array Value → State → Outcome → State → Prop} {XC : String → State → State → Prop} {mc ms : Nat} {free : Addr → Prop} {bytes : ByteArray} {maxL : Nat} {ret : Option FieldType}
    (hM : vx_Met l y ws rm Pc Qc XC mc ms free) (hblind : FrameBlind Pc) (hrc : rm.cells = mc) (hrs : rm.slots = ms)
    (hframes : rm.frames + 1 ≤ R.frames) (hlocals : W9 + (maxL + 11) + rm.locals ≤ R.locals)
    (hws : ∀ w ∈ ws, ∀ a' U, s.WarmedH U.vm → w.before a' U = true) (hcode : Cond.code y bytes maxL ret ∈ ws) (hinit : ∀ a' U, s.WarmedH U.vm → (Cond.initialized y.cls).before a' U = true) :
    vx_Back l R p e below s sargs y len W9 (PreOf R mc ms Pc) (PostOf Qc mc ms free) (vx_Post XC mc ms free) := by
  intro m meth c A g ig mk a X hg hsize hdg hW hn hp
  have h1 : (headSpec ws rm).pre.before a A.U = true := atoms_intro fun w hw => hws w hw _ _ X.warmed
  have h2 : (Cond.code y bytes maxL ret).before a A.U = true := hws _ hcode _ _ X.warmed
  have h3 : (Cond.initialized y.cls).before a A.U = true := hinit _ _ X.warmed
  have h4 : A.cells + (headSpec ws rm).room.cells ≤ R.cells := by rw [show (headSpec ws rm).room.cells = mc from hrc]; exact hp.1
  have h5 : A.slots + (headSpec ws rm).room.slots ≤ R.slots := by rw [show (headSpec ws rm).room.slots = ms from hrs]; exact hp.2.1
  have hPc : Pc a (A.U.calling g mk a) := hblind _ _ _ _ hp.2.2
  obtain ⟨U, Ls, c0, s0⟩ := A
  dsimp only [Pt.U, Pt.locs, Pt.cells, Pt.slots] at h1 h2 h3 h4 h5 X hn hPc ⊢
  obtain ⟨methY, cY, hmY, hcY, -, hlY, -, -, -, -⟩ := Cond.code_spec hn h2
  obtain ⟨kY, hkY, -⟩ := className_of_methodNamed hn
  have hinitY : kY.init = .initialized := Cond.initialized_spec (findClass_of_methodNamed hn) hkY h3
  have h : At U g.method c below := by rw [hg]; exact X.here
  have hlocals9 : W9 + (maxL + 11) + (headSpec ws rm).room.locals ≤ R.locals := hlocals
  have happ : (headSpec ws rm).appliesLoose y e.platform (U.calling g mk a) = true :=
    Spec.appliesLoose_calling (g := g) h hdg hn hkY hinitY
      (X.room_calling (g := g) (R' := (headSpec ws rm).room) hsize hmY hcY hframes (by rw [hlY]; omega) h4 h5) h1
  obtain ⟨mid, hmid⟩ := h.above
  have hfr : (U.setTop g).frames = (.java g :: mid) ++ below := by rw [State.frames_setTop' g h.top, hmid]; rfl
  obtain ⟨o, s₂, hsteps, -, hend, hq⟩ := Steps.callFree hM p X.admits X.cas X.clock (acts := []) hfr happ hPc trivial
  have hq' : vx_Q Qc XC mc ms free a (U.calling g mk a) o s₂ := hq
  rw [State.frames_setTop' g h.top] at hend
  obtain ⟨g₀, hg0⟩ := Option.isSome_iff_exists.mp h.top
  obtain ⟨r, hr⟩ := State.topJava?_eq_some.mp hg0
  have hr' : (({ U with heap := s₂.heap, slotsUsed := s₂.slotsUsed } : State).setVm s₂.vm).frames = .java g₀ :: r := hr
  rcases hq' with ⟨hqc, L, hfe, hL⟩ | ⟨q, rfl, E, ce, L, hx, hce, hcv, hcl, hW₂, hsm, hL⟩
  · obtain ⟨⟨v, rfl⟩, hW₂, e2, q2, q3, q4, q5, q6⟩ := id hfe
    have e3 : s₂ = ({ (U.calling g mk a).setFrames s₂.frames with heap := s₂.heap, slotsUsed := s₂.slotsUsed } : State).setVm s₂.vm := by
      have : s₂ = ({ s₂ with vm := (U.calling g mk a).vm } : State).setVm s₂.vm := rfl
      rw [e2] at this
      exact this
    obtain ⟨c₂, i₂, len₂, hc₂, hd₂, hf₂⟩ := hend
    have hW' : U.WarmedH s₂.vm := hW₂
    have hcc : c₂ = c := by
      have h1 : s₂.code? g.method = U.code? g.method := by
        rw [State.code?_eq, State.code?_eq, hW'.alike.method?]
      exact Option.some.inj (hc₂.symm.trans (h1.trans h.code))
    subst hcc
    have hlen : len₂ = len := by rw [hdg] at hd₂; cases hd₂; rfl
    subst hlen
    have hs₂ : s₂ = (({ U with heap := s₂.heap, slotsUsed := s₂.slotsUsed } : State).setVm s₂.vm).setTop { g with pc := g.pc + len₂, stack := v.toList ++ g.stack } := by
      refine e3.trans ?_
      rw [hf₂, State.calling_eq h.top, State.setFrames_setFrames, State.setTop_of_frames _ hr', hr]
      rfl
    have hsame : U.sameButNew ({ U with heap := s₂.heap, slotsUsed := s₂.slotsUsed } : State) L mc ms := by
      refine ⟨?_, q2, q3, q4, q5, q6⟩
      obtain ⟨t, ht, -⟩ := State.frames_cons hr
      show ({ U with heap := s₂.heap, slotsUsed := s₂.slotsUsed } : State) = { U.setFrames U.frames with heap := s₂.heap, slotsUsed := s₂.slotsUsed }
      rw [State.setFrames_self ht]
    subst hg
    refine Or.inl ⟨v, ⟨(({ U with heap := s₂.heap, slotsUsed := s₂.slotsUsed } : State).setVm s₂.vm), Ls ++ L, c0 + mc, s0 + ms⟩,
      ⟨X.admits, X.cas, X.clock, X.frames, X.room, X.hears, X.method, X.code, (X.here.setHeapUsed s₂.heap s₂.slotsUsed).setVm hW'.alike, X.tail, State.WarmedH.trans X.warmed hW', X.limits, X.bytes, X.same.trans (hsame.setVm s.vm)⟩,
      ⟨g, mk, s₂, L, rfl, rfl, hqc, rfl, hL, rfl, rfl⟩, ?_⟩
    show Steps p.tables e below _ ((({ U with heap := s₂.heap, slotsUsed := s₂.slotsUsed } : State).setVm s₂.vm).setTop { g with pc := g.pc + len₂, stack := v.toList ++ g.stack })
    rw [← hs₂]
    exact hsteps
  · obtain ⟨e2, q2, q3, q4, q5, q6⟩ := id hsm
    have e3 : s₂ = ({ (U.calling g mk a).setFrames s₂.frames with heap := s₂.heap, slotsUsed := s₂.slotsUsed } : State).setVm s₂.vm := by
      have : s₂ = ({ s₂ with vm := (U.calling g mk a).vm } : State).setVm s₂.vm := rfl
      rw [e2] at this
      exact this
    have hf₂ : s₂.frames = .throwing q :: .java g :: U.frames.tail := hend
    have hW' : U.WarmedH s₂.vm := hW₂
    have hs₂ : s₂ = ((({ U with heap := s₂.heap, slotsUsed := s₂.slotsUsed } : State).setVm s₂.vm).setTop g).pushFrame (.throwing q) := by
      refine e3.trans ?_
      rw [hf₂, State.calling_eq h.top, State.setFrames_setFrames, State.pushFrame, State.frames_setTop _ hr', State.setTop_of_frames _ hr', State.setFrames_setFrames, hr]
      rfl
    have hsame : U.sameButNew ({ U with heap := s₂.heap, slotsUsed := s₂.slotsUsed } : State) L mc ms := by
      refine ⟨?_, q2, q3, q4, q5, q6⟩
      obtain ⟨t, ht, -⟩ := State.frames_cons hr
      show ({ U with heap := s₂.heap, slotsUsed := s₂.slotsUsed } : State) = { U.setFrames U.frames with heap := s₂.heap, slotsUsed := s₂.slotsUsed }
      rw [State.setFrames_self ht]
    subst hg
    refine Or.inr ⟨q, ⟨(({ U with heap := s₂.heap, slotsUsed := s₂.slotsUsed } : State).setVm s₂.vm), Ls ++ L, c0 + mc, s0 + ms⟩,
      ⟨X.admits, X.cas, X.clock, X.frames, X.room, X.hears, X.method, X.code, (X.here.setHeapUsed s₂.heap s₂.slotsUsed).setVm hW'.alike, X.tail, State.WarmedH.trans X.warmed hW', X.limits, X.bytes, X.same.trans (hsame.setVm s.vm)⟩,
      ⟨g, mk, s₂, L, E, ce, rfl, rfl, hx, hce, hcv, hcl, rfl, hL, rfl, rfl⟩, ?_⟩
    show Steps p.tables e below _ (((({ U with heap := s₂.heap, slotsUsed := s₂.slotsUsed } : State).setVm s₂.vm).setTop g).pushFrame (.throwing q))
    rw [← hs₂]
    exact hsteps
end Payer
section Calls
variable {p : Program} {l : Launch} {e : Env} {R : Room} {s : State} {m : MethodId} {args : Array Value} {below : List Frame} {meth : Method} {c : Code} {T : State} {locs : List Loc} {cells slots : Nat}
theorem vx_callV (X : Stand p l e R s m args below meth c T locs cells slots) (hexec : p.tables.exec = Jvm.exec) {own C : String} {index : Nat} {y : MethodName} {bytes : ByteArray} {maxL : Nat} {ret : Option FieldType}
    (hown : s.vm.findClass own = some m.cls) (hlink : (Cond.methodLink own index y).before args s = true) (hinst : (Cond.instanceMethod y).before args s = true) (hsel : (Cond.selects C y y).before args s = true)
    (hcode : (Cond.code y bytes maxL ret).before args s = true) (hy : y.cls ≠ "java/lang/invoke/MethodHandle" ∧ y.cls ≠ "java/lang/invoke/VarHandle")
    {W9 : Nat} {Pre : Pt → Array Value → Prop} {Post : Pt → Array Value → Option Value → Pt → Prop} {PostX : Pt → Array Value → Addr → Pt → Prop} (hK : vx_Back l R p e below s args y 3 W9 Pre Post PostX)
    {b : Addr} {cellB : Cell} (hcell : T.heap[b]? = some cellB) (hobj : cellB.vm.isStatics = false) (hcls : s.vm.findClass C = some cellB.cls)
    {g : JFrame} (hg : g.method = m) (hsize : g.locals.size = c.maxLocals) {argsL rest : List Value} (hlen : ∀ sig, parseMethodDescriptor y.desc = some sig → argsL.length = sig.parameters.length)
    (hstack : g.stack = argsL.reverse ++ .ref b :: rest) (hW : 2 * g.monitorRoom + (rest.map fun v => v.category).sum ≤ W9) (hdg : decode c.code g.pc = .ok (.invokevirtual index, 3))
    (hpre : ∀ vm₁, s.WarmedH vm₁ → Pre ⟨T.setVm vm₁, locs, cells, slots⟩ (Value.ref b :: argsL).toArray) :
    (∃ (v : Option Value) (vm₁ : Vm) (B : Pt), s.WarmedH vm₁ ∧ Stand p l e R s m args below meth c B.U B.locs B.cells B.slots ∧ Post ⟨T.setVm vm₁, locs, cells, slots⟩ (Value.ref b :: argsL).toArray v B ∧
      ∀ target, Steps p.tables e below (B.U.setTop { g with pc := g.pc + 3, stack := v.toList ++ rest }) target → Steps p.tables e below (T.setTop g) target) ∨
    (∃ (q : Addr) (vm₁ : Vm) (B : Pt), s.WarmedH vm₁ ∧ Stand p l e R s m args below meth c B.U B.locs B.cells B.slots ∧ PostX ⟨T.setVm vm₁, locs, cells, slots⟩ (Value.ref b :: argsL).toArray q B ∧
      Steps p.tables e below (T.setTop g) ((B.U.setTop { g with stack := rest }).pushFrame (.throwing q))) := by
  obtain ⟨mk, methM, hnamed, hmethM, hstM, habM⟩ := Cond.instanceMethod_spec hinst
  obtain ⟨methM', cM, hmethM', -, -, -, -, -, -, hsigM⟩ := Cond.code_spec hnamed hcode
  cases hmethM.symm.trans hmethM'
  obtain ⟨c2, r2, m2, q1, q2, q3, q4, kP, hkP, hkPi⟩ := Cond.selects_spec hsel
  cases hcls.symm.trans q1
  cases (State.methodFound?_of_named hnamed hy).symm.trans q2
  cases hnamed.symm.trans q3
  have hselP : selectMethod e.platform s.vm cellB.cls mk = .method mk := by rw [Launch.admits_selectMethod X.admits]; exact q4
  obtain ⟨vm₁, X₁, hstep₁⟩ := X.invokevirtual hexec hown hlink hnamed hmethM hstM hkP hkPi hy (a := b) (cell := cellB) hcell
    (fun z h => by rw [h] at hobj; cases hobj) hselP hmethM habM hkP hkPi (g := g) hg (argsL := argsL) (rest := rest) (hlen _ hsigM) hstack hdg
  rcases hK m meth c ⟨T.setVm vm₁, locs, cells, slots⟩ { g with stack := rest } (.invokevirtual index) mk (Value.ref b :: argsL).toArray X₁ hg hsize hdg hW (X₁.named hnamed) (hpre vm₁ X₁.warmed) with ⟨v, B, X', hpost, hsteps⟩ | ⟨q, B, X', hpost, hsteps⟩
  · exact Or.inl ⟨v, vm₁, B, X₁.warmed, X', hpost, fun target h => hstep₁ _ fun acts => by rw [doInvoke_state]; exact hsteps.trans h⟩
  · exact Or.inr ⟨q, vm₁, B, X₁.warmed, X', hpost, hstep₁ _ fun acts => by rw [doInvoke_state]; exact hsteps⟩
theorem vx_callS (X : Stand p l e R s m args below meth c T locs cells slots) (hexec : p.tables.exec = Jvm.exec) {own : String} {index : Nat} {y : MethodName} {bytes : ByteArray} {maxL : Nat} {ret : Option FieldType}
    (hown : s.vm.findClass own = some m.cls) (hlink : (Cond.methodLink own index y).before args s = true) (hstat : (Cond.static y).before args s = true) (hinit : (Cond.initialized y.cls).before args s = true)
    (hcode : (Cond.code y bytes maxL ret).before args s = true) (hy : y.cls ≠ "java/lang/invoke/MethodHandle" ∧ y.cls ≠ "java/lang/invoke/VarHandle")
    {W9 : Nat} {Pre : Pt → Array Value → Prop} {Post : Pt → Array Value → Option Value → Pt → Prop} {PostX : Pt → Array Value → Addr → Pt → Prop} (hK : vx_Back l R p e below s args y 3 W9 Pre Post PostX)
    {g : JFrame} (hg : g.method = m) (hsize : g.locals.size = c.maxLocals) {argsL rest : List Value} (hlen : ∀ sig, parseMethodDescriptor y.desc = some sig → argsL.length = sig.parameters.length)
    (hstack : g.stack = argsL.reverse ++ rest) (hW : 2 * g.monitorRoom + (rest.map fun v => v.category).sum ≤ W9) (hdg : decode c.code g.pc = .ok (.invokestatic index, 3))
    (hpre : ∀ vm₁, s.WarmedH vm₁ → Pre ⟨T.setVm vm₁, locs, cells, slots⟩ argsL.toArray) :
    (∃ (v : Option Value) (vm₁ : Vm) (B : Pt), s.WarmedH vm₁ ∧ Stand p l e R s m args below meth c B.U B.locs B.cells B.slots ∧ Post ⟨T.setVm vm₁, locs, cells, slots⟩ argsL.toArray v B ∧
      ∀ target, Steps p.tables e below (B.U.setTop { g with pc := g.pc + 3, stack := v.toList ++ rest }) target → Steps p.tables e below (T.setTop g) target) ∨
    (∃ (q : Addr) (vm₁ : Vm) (B : Pt), s.WarmedH vm₁ ∧ Stand p l e R s m args below meth c B.U B.locs B.cells B.slots ∧ PostX ⟨T.setVm vm₁, locs, cells, slots⟩ argsL.toArray q B ∧
      Steps p.tables e below (T.setTop g) ((B.U.setTop { g with stack := rest }).pushFrame (.throwing q))) := by
  obtain ⟨mk, hnamed⟩ := Cond.code_named hcode
  obtain ⟨methM, cM, hmethM, -, -, -, -, -, -, hsigM⟩ := Cond.code_spec hnamed hcode
  have hstatic : methM.isStatic = true := Cond.static_spec hnamed hmethM hstat
  obtain ⟨kP, hkP, -⟩ := className_of_methodNamed hnamed
  have hinitP : kP.init = .initialized := Cond.initialized_spec (findClass_of_methodNamed hnamed) hkP hinit
  obtain ⟨vm₁, X₁, hstep₁⟩ := X.invokestatic hexec hown hlink hnamed hmethM hstatic hkP hinitP hy (g := g) hg (argsL := argsL) (rest := rest) (hlen _ hsigM) hstack hdg
  rcases hK m meth c ⟨T.setVm vm₁, locs, cells, slots⟩ { g with stack := rest } (.invokestatic index) mk argsL.toArray X₁ hg hsize hdg hW (X₁.named hnamed) (hpre vm₁ X₁.warmed) with ⟨v, B, X', hpost, hsteps⟩ | ⟨q, B, X', hpost, hsteps⟩
  · exact Or.inl ⟨v, vm₁, B, X₁.warmed, X', hpost, fun target h => hstep₁ _ fun acts => by rw [doInvoke_state]; exact hsteps.trans h⟩
  · exact Or.inr ⟨q, vm₁, B, X₁.warmed, X', hpost, hstep₁ _ fun acts => by rw [doInvoke_state]; exact hsteps⟩
end Calls
theorem vx_cls {s : State} {T : State} {vm₁ : Vm} {E : String} {k : ClassId} (hW : s.WarmedH vm₁) (h : (T.setVm vm₁).vm.findClass E = some k) : s.vm.findClass E = some k := by
  have h1 : vm₁.findClass E = some k := h
  rw [hW.alike.findClass] at h1
  exact h1
/-- the method's frame g, with q thrown over it -/
def vx_W (p : Program) (l : Launch) (e : Env) (R : Room) (s : State) (m : MethodId) (args : Array Value) (below : List Frame) (meth : Method) (c : Code) (H : Heap) (locs : List Loc) (cells slots : Nat) (Q : State → Prop) (g : JFrame) (q : Addr) : Prop :=
  ∀ T : State, T.heap = H → Stand p l e R s m args below meth c T locs cells slots → ∃ t, Steps p.tables e below ((T.setTop g).pushFrame (.throwing q)) t ∧ Q t
def vx_Run (p : Program) (l : Launch) (e : Env) (R : Room) (s : State) (m : MethodId) (args : Array Value) (below : List Frame) (meth : Method) (c : Code) (H : Heap) (locs : List Loc) (cells slots mc ms : Nat) (g : JFrame) (rest : List Value) (Qa : State → Outcome → State → Prop) (XC : String → State → State → Prop) (free : Addr → Prop) : Prop :=
  ∀ T : State, T.heap = H → Stand p l e R s m args below meth c T locs cells slots →
    (∃ (v : Option Value) (st₀ t T' : State) (L : List Loc), st₀.heap = H ∧ Stand p l e R s m args below meth c T' (locs ++ L) (cells + mc) (slots + ms) ∧ (∀ q ∈ L, free q.base) ∧ T'.heap = t.heap ∧ T'.vm = t.vm ∧ Qa st₀ (.returned v) t ∧
      Goes p e below T g T' { g with pc := g.pc + 3, stack := v.toList ++ rest }) ∨
    (∃ (q : Addr) (st₀ t T' : State) (L : List Loc) (E : String) (ce : Cell), st₀.heap = H ∧ Stand p l e R s m args below meth c T' (locs ++ L) (cells + mc) (slots + ms) ∧ (∀ z ∈ L, free z.base) ∧ T'.heap = t.heap ∧ T'.vm = t.vm ∧ XC E st₀ t ∧ t.heap[q]? = some ce ∧ ce.vm = .none ∧ s.vm.findClass E = some ce.cls ∧
      Steps p.tables e below (T.setTop g) ((T'.setTop { g with stack := rest }).pushFrame (.throwing q)))
def vx_X {S : Type} (px : S → Prop) (B : String → S → State → Prop) (A : Nat → Prop) : String → State → State → Prop := fun E st t => ∃ u : S, px u ∧ B E u t ∧ va_F A st t
section Runs
variable {p : Program} {l : Launch} {e : Env} {R : Room} {s : State} {m : MethodId} {args : Array Value} {below : List Frame} {meth : Method} {c : Code} {H : Heap} {locs : List Loc} {cells slots : Nat}
variable {y : MethodName} {bytes cc : ByteArray} {maxL nL mc ms n index : Nat} {ret : Option FieldType} {ws : List Cond} {rm : Room} {Pc : Array Value → State → Prop} {Qc : Array Value → State → Outcome → State → Prop} {XC : String → State → State → Prop} {free : Addr → Prop} {Ts : List Cond} {own C : String} {b : Addr} {As rest : List Value} {g : JFrame}
theorem vx_callBack (cb : CallB R s args own index y bytes maxL ret ws rm mc ms n) (hM : vx_Met l y ws rm Pc Qc XC mc ms free) (hbl : FrameBlind Pc) : vx_Back l R p e below s args y 3 8 (PreOf R mc ms Pc) (PostOf Qc mc ms free) (vx_Post XC mc ms free) := by
  obtain ⟨hrc, hrs, hfr, hlo, hws, hcw, -, hini, -⟩ := cb
  exact vx_back (bytes := bytes) (maxL := maxL) (ret := ret) hM hbl hrc hrs hfr hlo hws hcw (fun a' U hW => word_at hW (Or.inl (by first | rfl | simp [Cond.onTables, Cond.keeps, Cond.steady])) hini)
theorem vx_runV (S : CallFix p m c cc nL s args Ts own) (hM : vx_Met l y ws rm Pc Qc XC mc ms free) (cw : CallW R s args own C index y bytes maxL ret ws rm mc ms n) (hp : PreV s H C b Pc As)
    (hg : g.method = m) (hn : As.length = n) (hsize : g.locals.size = nL) (hstack : g.stack = As.reverse ++ .ref b :: rest) (hW : 2 * g.monitorRoom + (rest.map fun v => v.category).sum ≤ 8) (hdg : decode cc g.pc = .ok (.invokevirtual index, 3)) (hf : cells + mc ≤ R.cells ∧ slots + ms ≤ R.slots) :
    vx_Run p l e R s m args below meth c H locs cells slots mc ms g rest (Qc (Value.ref b :: As).toArray) XC free := by
  have hK : vx_Back l R p e below s args y 3 8 (PreOf R mc ms Pc) (PostOf Qc mc ms free) (vx_Post XC mc ms free) := vx_callBack cw.1 hM hp.1
  obtain ⟨⟨-, -, -, -, -, -, hcode, -, hy, hlen, hl⟩, hin, hse⟩ := cw
  obtain ⟨hx, hb, hml, ho, -⟩ := S
  obtain ⟨-, ⟨cellB, hcB, hoB, hclB⟩, hPc⟩ := hp
  intro T hT X
  rcases vx_callV X hx (C := C) (bytes := bytes) (maxL := maxL) (ret := ret) ho hl hin hse hcode hy hK (by rw [hT]; exact hcB) hoB hclB hg (hsize.trans hml.symm) (argsL := As) (rest := rest) (fun sig h => hn.trans (hlen sig h)) hstack hW (by rw [hb]; exact hdg)
    (fun vm₁ hW₁ => ⟨hf.1, hf.2, hPc (T.setVm vm₁) hT hW₁⟩) with ⟨v, vm₁, ⟨U', l2, c2, s2⟩, hW₁, X', ⟨g', mk, t, L, e1, e2, hq, h1, hL, h2, h3⟩, st⟩ | ⟨q, vm₁, ⟨U', l2, c2, s2⟩, hW₁, X', ⟨g', mk, t, L, E, ce, e1, e2, hq, hce, hcv, hcl, h1, hL, h2, h3⟩, st⟩
  · dsimp only [Pt.U, Pt.locs, Pt.cells, Pt.slots] at X' e1 e2 h1 h2 h3 st
    subst h1; subst h2; subst h3
    exact Or.inl ⟨v, (T.setVm vm₁).calling g' mk (Value.ref b :: As).toArray, t, U', L, hT, X', hL, e1, e2, hq, st⟩
  · dsimp only [Pt.U, Pt.locs, Pt.cells, Pt.slots] at X' e1 e2 h1 h2 h3 st hcl
    subst h1; subst h2; subst h3
    exact Or.inr ⟨q, (T.setVm vm₁).calling g' mk (Value.ref b :: As).toArray, t, U', L, E, ce, hT, X', hL, e1, e2, hq, hce, hcv, vx_cls hW₁ hcl, st⟩
theorem vx_runS (S : CallFix p m c cc nL s args Ts own) (hM : vx_Met l y ws rm Pc Qc XC mc ms free) (cw : CallB R s args own index y bytes maxL ret ws rm mc ms n ∧ (Cond.static y).before args s = true) (hp : PreS s H Pc As)
    (hg : g.method = m) (hn : As.length = n) (hsize : g.locals.size = nL) (hstack : g.stack = As.reverse ++ rest) (hW : 2 * g.monitorRoom + (rest.map fun v => v.category).sum ≤ 8) (hdg : decode cc g.pc = .ok (.invokestatic index, 3)) (hf : cells + mc ≤ R.cells ∧ slots + ms ≤ R.slots) :
    vx_Run p l e R s m args below meth c H locs cells slots mc ms g rest (Qc As.toArray) XC free := by
  have hK : vx_Back l R p e below s args y 3 8 (PreOf R mc ms Pc) (PostOf Qc mc ms free) (vx_Post XC mc ms free) := vx_callBack cw.1 hM hp.1
  obtain ⟨⟨-, -, -, -, -, -, hcode, hini, hy, hlen, hl⟩, hstt⟩ := cw
  obtain ⟨hx, hb, hml, ho, -⟩ := S
  intro T hT X
  rcases vx_callS X hx (bytes := bytes) (maxL := maxL) (ret := ret) ho hl hstt hini hcode hy hK hg (hsize.trans hml.symm) (argsL := As) (rest := rest) (fun sig h => hn.trans (hlen sig h)) hstack hW (by rw [hb]; exact hdg)
    (fun vm₁ hW₁ => ⟨hf.1, hf.2, hp.2 (T.setVm vm₁) hT hW₁⟩) with ⟨v, vm₁, ⟨U', l2, c2, s2⟩, hW₁, X', ⟨g', mk, t, L, e1, e2, hq, h1, hL, h2, h3⟩, st⟩ | ⟨q, vm₁, ⟨U', l2, c2, s2⟩, hW₁, X', ⟨g', mk, t, L, E, ce, e1, e2, hq, hce, hcv, hcl, h1, hL, h2, h3⟩, st⟩
  · dsimp only [Pt.U, Pt.locs, Pt.cells, Pt.slots] at X' e1 e2 h1 h2 h3 st
    subst h1; subst h2; subst h3
    exact Or.inl ⟨v, (T.setVm vm₁).calling g' mk As.toArray, t, U', L, hT, X', hL, e1, e2, hq, st⟩
  · dsimp only [Pt.U, Pt.locs, Pt.cells, Pt.slots] at X' e1 e2 h1 h2 h3 st hcl
    subst h1; subst h2; subst h3
    exact Or.inr ⟨q, (T.setVm vm₁).calling g' mk As.toArray, t, U', L, E, ce, hT, X', hL, e1, e2, hq, hce, hcv, vx_cls hW₁ hcl, st⟩
end Runs
section Rows
variable {p : Program} {l : Launch} {e : Env} {R : Room} {s : State} {m : MethodId} {args : Array Value} {below : List Frame} {meth : Method} {c : Code} {H : Heap} {locs : List Loc} {cells slots : Nat} {Q : State → Prop}
variable {mc ms : Nat} {free : Addr → Prop} {A0 A1 : Nat → Prop} {H0 : Heap} {a : Array Value} {pc : Nat} {ls : Array Slot} {st0 rest : List Value}
theorem vx_keep {st₀ t T' : State} {L : List Loc} (h0 : st₀.heap = H) (e1 : T'.heap = t.heap) (hS : va_S A0 H0 H locs) (hA : ∀ q, q < H.size → A1 q → A0 q) (hf : ∀ q, free q → A0 q) (hL : ∀ q ∈ L, free q.base) (hF : va_F A1 st₀ t) :
    H.size ≤ T'.heap.size ∧ (∀ q : Nat, q < H.size → ¬ A1 q → T'.heap[q]? = H[q]?) ∧ va_S A0 H0 T'.heap (locs ++ L) := by
  obtain ⟨hz, hk⟩ := hF
  rw [h0] at hz hk
  exact ⟨by rw [e1]; exact hz, fun q h1 h2 => by rw [e1]; exact hk q h1 h2,
    ⟨Nat.le_trans hS.1 (by rw [e1]; exact hz), fun q h1 h2 => by rw [e1, hk q (Nat.lt_of_lt_of_le h1 hS.1) (fun z => h2 (hA q (Nat.lt_of_lt_of_le h1 hS.1) z))]; exact hS.2.1 q h1 h2, fun q hq => by
      rcases List.mem_append.mp hq with h | h
      · exact hS.2.2 q h
      · exact hf _ (hL q h)⟩⟩
theorem vx_calli {S SX : Type} {post : Int32 → S → Prop} {px : SX → Prop} {B : S → State → Prop} {BX : String → SX → State → Prop} {AX : Nat → Prop} (hr : vx_Run p l e R s m args below meth c H locs cells slots mc ms (F0 m pc ls st0) rest (va_Qi post B A1 a) (vx_X px BX AX) free) (hS : va_S A0 H0 H locs) (hA : ∀ q, q < H.size → A1 q → A0 q) (hf : ∀ q, free q → A0 q) (hAX : ∀ q, q < H.size → AX q → A0 q)
    (kx : ∀ (E : String) (ce : Cell) (q9 : Addr) (u : SX) (t : State) (H1 : Heap) (locs1 : List Loc), t.heap = H1 → s.vm.Alike t.vm → px u → BX E u t → H.size ≤ H1.size → (∀ q : Nat, q < H.size → ¬ AX q → H1[q]? = H[q]?) → va_S A0 H0 H1 locs1 → H1[q9]? = some ce → ce.vm = .none → s.vm.findClass E = some ce.cls → vx_W p l e R s m args below meth c H1 locs1 (cells + mc) (slots + ms) Q (F0 m pc ls rest) q9)
    (kk : ∀ (r : Int32) (u : S) (t : State) (H1 : Heap) (locs1 : List Loc), t.heap = H1 → s.vm.Alike t.vm → post r u → B u t → H.size ≤ H1.size → (∀ q : Nat, q < H.size → ¬ A1 q → H1[q]? = H[q]?) → va_S A0 H0 H1 locs1 → W p l e R s m args below meth c H1 locs1 (cells + mc) (slots + ms) Q (F0 m (pc + 3) ls (.int r :: rest))) : W p l e R s m args below meth c H locs cells slots Q (F0 m pc ls st0) := by
  intro T hT X
  rcases hr T hT X with ⟨v, st₀, t, T', L, h0, X', hL, e1, e2, ⟨⟨r, u, hv, hp, hb⟩, hF⟩, st⟩ | ⟨q, st₀, t, T', L, E, ce, h0, X', hL, e1, e2, ⟨u, hp, hb, hF⟩, hce, hcv, hcl, st⟩
  · cases hv
    obtain ⟨k1, k2, k3⟩ := vx_keep h0 e1 hS hA hf hL hF
    obtain ⟨t2, a1, b1⟩ := kk r u t T'.heap (locs ++ L) e1.symm (by rw [← e2]; exact X'.warmed.alike) hp hb k1 k2 k3 T' rfl X'
    exact ⟨t2, st t2 a1, b1⟩
  · obtain ⟨k1, k2, k3⟩ := vx_keep h0 e1 hS hAX hf hL hF
    obtain ⟨t2, a1, b1⟩ := kx E ce q u t T'.heap (locs ++ L) e1.symm (by rw [← e2]; exact X'.warmed.alike) hp hb k1 k2 k3 (by rw [e1]; exact hce) hcv hcl T' rfl X'
    exact ⟨t2, st.trans a1, b1⟩
theorem vx_calll {S SX : Type} {post : Int64 → S → Prop} {px : SX → Prop} {B : S → State → Prop} {BX : String → SX → State → Prop} {AX : Nat → Prop} (hr : vx_Run p l e R s m args below meth c H locs cells slots mc ms (F0 m pc ls st0) rest (va_Ql post B A1 a) (vx_X px BX AX) free) (hS : va_S A0 H0 H locs) (hA : ∀ q, q < H.size → A1 q → A0 q) (hf : ∀ q, free q → A0 q) (hAX : ∀ q, q < H.size → AX q → A0 q)
    (kx : ∀ (E : String) (ce : Cell) (q9 : Addr) (u : SX) (t : State) (H1 : Heap) (locs1 : List Loc), t.heap = H1 → s.vm.Alike t.vm → px u → BX E u t → H.size ≤ H1.size → (∀ q : Nat, q < H.size → ¬ AX q → H1[q]? = H[q]?) → va_S A0 H0 H1 locs1 → H1[q9]? = some ce → ce.vm = .none → s.vm.findClass E = some ce.cls → vx_W p l e R s m args below meth c H1 locs1 (cells + mc) (slots + ms) Q (F0 m pc ls rest) q9)
    (kk : ∀ (r : Int64) (u : S) (t : State) (H1 : Heap) (locs1 : List Loc), t.heap = H1 → s.vm.Alike t.vm → post r u → B u t → H.size ≤ H1.size → (∀ q : Nat, q < H.size → ¬ A1 q → H1[q]? = H[q]?) → va_S A0 H0 H1 locs1 → W p l e R s m args below meth c H1 locs1 (cells + mc) (slots + ms) Q (F0 m (pc + 3) ls (.long r :: rest))) : W p l e R s m args below meth c H locs cells slots Q (F0 m pc ls st0) := by
  intro T hT X
  rcases hr T hT X with ⟨v, st₀, t, T', L, h0, X', hL, e1, e2, ⟨⟨r, u, hv, hp, hb⟩, hF⟩, st⟩ | ⟨q, st₀, t, T', L, E, ce, h0, X', hL, e1, e2, ⟨u, hp, hb, hF⟩, hce, hcv, hcl, st⟩
  · cases hv
    obtain ⟨k1, k2, k3⟩ := vx_keep h0 e1 hS hA hf hL hF
    obtain ⟨t2, a1, b1⟩ := kk r u t T'.heap (locs ++ L) e1.symm (by rw [← e2]; exact X'.warmed.alike) hp hb k1 k2 k3 T' rfl X'
    exact ⟨t2, st t2 a1, b1⟩
  · obtain ⟨k1, k2, k3⟩ := vx_keep h0 e1 hS hAX hf hL hF
    obtain ⟨t2, a1, b1⟩ := kx E ce q u t T'.heap (locs ++ L) e1.symm (by rw [← e2]; exact X'.warmed.alike) hp hb k1 k2 k3 (by rw [e1]; exact hce) hcv hcl T' rfl X'
    exact ⟨t2, st.trans a1, b1⟩
theorem vx_callf {S SX : Type} {post : UInt32 → S → Prop} {px : SX → Prop} {B : S → State → Prop} {BX : String → SX → State → Prop} {AX : Nat → Prop} (hr : vx_Run p l e R s m args below meth c H locs cells slots mc ms (F0 m pc ls st0) rest (va_Qf post B A1 a) (vx_X px BX AX) free) (hS : va_S A0 H0 H locs) (hA : ∀ q, q < H.size → A1 q → A0 q) (hf : ∀ q, free q → A0 q) (hAX : ∀ q, q < H.size → AX q → A0 q)
    (kx : ∀ (E : String) (ce : Cell) (q9 : Addr) (u : SX) (t : State) (H1 : Heap) (locs1 : List Loc), t.heap = H1 → s.vm.Alike t.vm → px u → BX E u t → H.size ≤ H1.size → (∀ q : Nat, q < H.size → ¬ AX q → H1[q]? = H[q]?) → va_S A0 H0 H1 locs1 → H1[q9]? = some ce → ce.vm = .none → s.vm.findClass E = some ce.cls → vx_W p l e R s m args below meth c H1 locs1 (cells + mc) (slots + ms) Q (F0 m pc ls rest) q9)
    (kk : ∀ (r : UInt32) (u : S) (t : State) (H1 : Heap) (locs1 : List Loc), t.heap = H1 → s.vm.Alike t.vm → post r u → B u t → H.size ≤ H1.size → (∀ q : Nat, q < H.size → ¬ A1 q → H1[q]? = H[q]?) → va_S A0 H0 H1 locs1 → W p l e R s m args below meth c H1 locs1 (cells + mc) (slots + ms) Q (F0 m (pc + 3) ls (.float r :: rest))) : W p l e R s m args below meth c H locs cells slots Q (F0 m pc ls st0) := by
  intro T hT X
  rcases hr T hT X with ⟨v, st₀, t, T', L, h0, X', hL, e1, e2, ⟨⟨r, u, hv, hp, hb⟩, hF⟩, st⟩ | ⟨q, st₀, t, T', L, E, ce, h0, X', hL, e1, e2, ⟨u, hp, hb, hF⟩, hce, hcv, hcl, st⟩
  · cases hv
    obtain ⟨k1, k2, k3⟩ := vx_keep h0 e1 hS hA hf hL hF
    obtain ⟨t2, a1, b1⟩ := kk r u t T'.heap (locs ++ L) e1.symm (by rw [← e2]; exact X'.warmed.alike) hp hb k1 k2 k3 T' rfl X'
    exact ⟨t2, st t2 a1, b1⟩
  · obtain ⟨k1, k2, k3⟩ := vx_keep h0 e1 hS hAX hf hL hF
    obtain ⟨t2, a1, b1⟩ := kx E ce q u t T'.heap (locs ++ L) e1.symm (by rw [← e2]; exact X'.warmed.alike) hp hb k1 k2 k3 (by rw [e1]; exact hce) hcv hcl T' rfl X'
    exact ⟨t2, st.trans a1, b1⟩
theorem vx_calld {S SX : Type} {post : UInt64 → S → Prop} {px : SX → Prop} {B : S → State → Prop} {BX : String → SX → State → Prop} {AX : Nat → Prop} (hr : vx_Run p l e R s m args below meth c H locs cells slots mc ms (F0 m pc ls st0) rest (va_Qd post B A1 a) (vx_X px BX AX) free) (hS : va_S A0 H0 H locs) (hA : ∀ q, q < H.size → A1 q → A0 q) (hf : ∀ q, free q → A0 q) (hAX : ∀ q, q < H.size → AX q → A0 q)
    (kx : ∀ (E : String) (ce : Cell) (q9 : Addr) (u : SX) (t : State) (H1 : Heap) (locs1 : List Loc), t.heap = H1 → s.vm.Alike t.vm → px u → BX E u t → H.size ≤ H1.size → (∀ q : Nat, q < H.size → ¬ AX q → H1[q]? = H[q]?) → va_S A0 H0 H1 locs1 → H1[q9]? = some ce → ce.vm = .none → s.vm.findClass E = some ce.cls → vx_W p l e R s m args below meth c H1 locs1 (cells + mc) (slots + ms) Q (F0 m pc ls rest) q9)
    (kk : ∀ (r : UInt64) (u : S) (t : State) (H1 : Heap) (locs1 : List Loc), t.heap = H1 → s.vm.Alike t.vm → post r u → B u t → H.size ≤ H1.size → (∀ q : Nat, q < H.size → ¬ A1 q → H1[q]? = H[q]?) → va_S A0 H0 H1 locs1 → W p l e R s m args below meth c H1 locs1 (cells + mc) (slots + ms) Q (F0 m (pc + 3) ls (.double r :: rest))) : W p l e R s m args below meth c H locs cells slots Q (F0 m pc ls st0) := by
  intro T hT X
  rcases hr T hT X with ⟨v, st₀, t, T', L, h0, X', hL, e1, e2, ⟨⟨r, u, hv, hp, hb⟩, hF⟩, st⟩ | ⟨q, st₀, t, T', L, E, ce, h0, X', hL, e1, e2, ⟨u, hp, hb, hF⟩, hce, hcv, hcl, st⟩
  · cases hv
    obtain ⟨k1, k2, k3⟩ := vx_keep h0 e1 hS hA hf hL hF
    obtain ⟨t2, a1, b1⟩ := kk r u t T'.heap (locs ++ L) e1.symm (by rw [← e2]; exact X'.warmed.alike) hp hb k1 k2 k3 T' rfl X'
    exact ⟨t2, st t2 a1, b1⟩
  · obtain ⟨k1, k2, k3⟩ := vx_keep h0 e1 hS hAX hf hL hF
    obtain ⟨t2, a1, b1⟩ := kx E ce q u t T'.heap (locs ++ L) e1.symm (by rw [← e2]; exact X'.warmed.alike) hp hb k1 k2 k3 (by rw [e1]; exact hce) hcv hcl T' rfl X'
    exact ⟨t2, st.trans a1, b1⟩
theorem vx_callv {S SX : Type} {post : S → Prop} {px : SX → Prop} {B : S → State → Prop} {BX : String → SX → State → Prop} {AX : Nat → Prop} (hr : vx_Run p l e R s m args below meth c H locs cells slots mc ms (F0 m pc ls st0) rest (va_Qv post B A1 a) (vx_X px BX AX) free) (hS : va_S A0 H0 H locs) (hA : ∀ q, q < H.size → A1 q → A0 q) (hf : ∀ q, free q → A0 q) (hAX : ∀ q, q < H.size → AX q → A0 q)
    (kx : ∀ (E : String) (ce : Cell) (q9 : Addr) (u : SX) (t : State) (H1 : Heap) (locs1 : List Loc), t.heap = H1 → s.vm.Alike t.vm → px u → BX E u t → H.size ≤ H1.size → (∀ q : Nat, q < H.size → ¬ AX q → H1[q]? = H[q]?) → va_S A0 H0 H1 locs1 → H1[q9]? = some ce → ce.vm = .none → s.vm.findClass E = some ce.cls → vx_W p l e R s m args below meth c H1 locs1 (cells + mc) (slots + ms) Q (F0 m pc ls rest) q9)
    (kk : ∀ (u : S) (t : State) (H1 : Heap) (locs1 : List Loc), t.heap = H1 → s.vm.Alike t.vm → post u → B u t → H.size ≤ H1.size → (∀ q : Nat, q < H.size → ¬ A1 q → H1[q]? = H[q]?) → va_S A0 H0 H1 locs1 → W p l e R s m args below meth c H1 locs1 (cells + mc) (slots + ms) Q (F0 m (pc + 3) ls (rest))) : W p l e R s m args below meth c H locs cells slots Q (F0 m pc ls st0) := by
  intro T hT X
  rcases hr T hT X with ⟨v, st₀, t, T', L, h0, X', hL, e1, e2, ⟨⟨u, hv, hp, hb⟩, hF⟩, st⟩ | ⟨q, st₀, t, T', L, E, ce, h0, X', hL, e1, e2, ⟨u, hp, hb, hF⟩, hce, hcv, hcl, st⟩
  · cases hv
    obtain ⟨k1, k2, k3⟩ := vx_keep h0 e1 hS hA hf hL hF
    obtain ⟨t2, a1, b1⟩ := kk u t T'.heap (locs ++ L) e1.symm (by rw [← e2]; exact X'.warmed.alike) hp hb k1 k2 k3 T' rfl X'
    exact ⟨t2, st t2 a1, b1⟩
  · obtain ⟨k1, k2, k3⟩ := vx_keep h0 e1 hS hAX hf hL hF
    obtain ⟨t2, a1, b1⟩ := kx E ce q u t T'.heap (locs ++ L) e1.symm (by rw [← e2]; exact X'.warmed.alike) hp hb k1 k2 k3 (by rw [e1]; exact hce) hcv hcl T' rfl X'
    exact ⟨t2, st.trans a1, b1⟩
/-- caught by the row x of this method's table; the rows ahead don't take it -/
theorem vx_catch {own name : String} {E : String} {ce : Cell} {q : Addr} (hown : s.vm.findClass own = some m.cls) (pre : List ExceptionTableEntry) (x : ExceptionTableEntry) (suf : List ExceptionTableEntry) (hsplit : c.exceptionTable.toList = pre ++ x :: suf)
    (hpass : ∀ z ∈ pre, covers z pc = false ∨ (z.catchType ≠ 0 ∧ ∃ nm : String, (Cond.classLink own z.catchType nm).before args s = true ∧ va_Nc E nm s)) (hx : covers x pc = true) (h0 : x.catchType ≠ 0)
    (hlink : (Cond.classLink own x.catchType name).before args s = true) (hcast : (Cond.castable E name).before args s = true) (hcell : H[q]? = some ce) (hv : ce.vm = .none) (hcl : s.vm.findClass E = some ce.cls)
    (kk : W p l e R s m args below meth c H locs cells slots Q (F0 m x.handlerPc ls [.ref q])) : vx_W p l e R s m args below meth c H locs cells slots Q (F0 m pc ls rest) q := by
  intro T hT X
  have hpl : e.platform.magicAccessors = ({} : Platform).magicAccessors := by rw [X.admits.platform]
  obtain ⟨c3, c4, hc3, hc4, hasg⟩ := Cond.castable_spec hcast
  cases Option.some.inj (hc3.symm.trans hcl)
  obtain ⟨c5, hc5, hcl5⟩ := Cond.classLink_spec hown hlink e.platform hpl
  cases Option.some.inj (hc4.symm.trans hc5)
  obtain ⟨vm', X', st⟩ := Stand.thenCaughtThrough X q (g := F0 m pc ls rest) rfl (Steps.refl _) (by rw [hT]; exact hcell) (by rw [hv]; rfl) (by obtain ⟨k9, h9, -⟩ := Vm.findClass_spec hcl; exact ⟨k9, h9⟩) pre x suf hsplit
    (fun z hz => by
      rcases hpass z hz with h | ⟨hz0, nm, hl1, hn1⟩
      · exact Or.inl h
      · obtain ⟨c6, hc6, hcl6⟩ := Cond.classLink_spec hown hl1 e.platform hpl
        obtain ⟨a8, b8, h1, h2, h3⟩ := hn1
        cases Option.some.inj (h1.symm.trans hcl)
        cases Option.some.inj (h2.symm.trans hc6)
        exact Or.inr ⟨hz0, _, hcl6, h3⟩) hx (Or.inr ⟨h0, c4, hcl5, hasg⟩)
  obtain ⟨t, a1, b1⟩ := kk (T.setVm vm') hT X'
  exact ⟨t, st.trans a1, b1⟩
end Rows
section Ends
variable {p : Program} {l : Launch} {e : Env} {R : Room} {s : State} {m : MethodId} {args : Array Value} {below : List Frame} {meth : Method} {c : Code} {H : Heap} {locs : List Loc} {cells slots : Nat} {Q : State → Prop}
variable {mc ms : Nat} {free : Addr → Prop} {A0 A1 : Nat → Prop} {H0 : Heap} {a : Array Value} {ls : Array Slot} {st0 rest : List Value}
variable {Qc : Array Value → State → Outcome → State → Prop} {XC : String → State → State → Prop}
/-- what a body that may throw owes at its end -/
def vx_MQ (below : List Frame) (Qc : Array Value → State → Outcome → State → Prop) (XC : String → State → State → Prop) (a : Array Value) (s : State) (mc ms : Nat) (free : Addr → Prop) : State → Prop := fun t =>
  ∃ o, t.status = .running ∧ Ended t below o ∧ vx_Q Qc XC mc ms free a s o t
theorem vx_ret {g : JFrame} {mc ms : Nat} (k : W p l e R s m args below meth c H locs cells slots (MQ below Qc args s mc ms free) g) : W p l e R s m args below meth c H locs cells slots (vx_MQ below Qc XC args s mc ms free) g := by
  intro T hT X
  obtain ⟨t, a1, o, b1, b2, b3, b4⟩ := k T hT X
  exact ⟨t, a1, o, b1, b2, Or.inl ⟨b3, b4⟩⟩
/-- not caught here: it goes on to the caller -/
theorem vx_widen {g : JFrame} {q : Addr} {k n : Nat} (h1 : cells ≤ k) (h2 : slots ≤ n) (kk : vx_W p l e R s m args below meth c H locs k n Q g q) : vx_W p l e R s m args below meth c H locs cells slots Q g q := fun T hT X => kk T hT (stand_widen X h1 h2)
theorem vx_out {pc : Nat} {E : String} {ce : Cell} {q : Addr} {mc ms : Nat} (hout : ∀ x ∈ c.exceptionTable.toList, covers x pc = false) (hlocks : meth.locks = false) (hcell : H[q]? = some ce) (hv : ce.vm = .none) (hcl : s.vm.findClass E = some ce.cls)
    (hx : ∀ t : State, t.heap = H → s.vm.Alike t.vm → XC E s t) (hf : ∀ z ∈ locs, free z.base) (hc : cells ≤ mc) (hs : slots ≤ ms) :
    vx_W p l e R s m args below meth c H locs cells slots (vx_MQ below Qc XC args s mc ms free) (F0 m pc ls rest) q := by
  intro T hT X
  obtain ⟨st1, hrun, hend, hW, hsm⟩ := X.leaveThrown q (g := F0 m pc ls rest) rfl rfl rfl hout hlocks
  have hcell9 : (T.setFrames (.throwing q :: below)).heap[q]? = some ce := by
    show T.heap[q]? = some ce
    rw [hT]; exact hcell
  exact ⟨_, st1, .threw q, hrun, hend, Or.inr ⟨q, rfl, E, ce, locs, hx _ hT hW.alike, hcell9, hv, hcl, hW, hsm.mono hc hs, hf⟩⟩
theorem vx_frame {U : State} {k n : Nat} (h : s.sameButNew ({ U with vm := s.vm } : State) locs k n) : s.heap.size ≤ U.heap.size ∧ ∀ q : Nat, q < s.heap.size → (∀ z ∈ locs, z.base ≠ q) → U.heap[q]? = s.heap[q]? := by
  obtain ⟨-, h2, -, -, -, h6⟩ := h
  refine ⟨h2, fun q hq hz => ?_⟩
  obtain ⟨c9, e1, e2, e3, e4⟩ := h6 q _ (Array.getElem?_eq_getElem hq)
  have hs : c9.slots = (s.heap[q]).slots := Array.ext_getElem? fun i => e4 i fun hm => hz _ hm rfl
  have h9 : c9 = s.heap[q] := by
    rw [hs] at e2
    exact e2
  have e5 : U.heap[q]? = some c9 := e1
  rw [e5, h9, Array.getElem?_eq_getElem hq]
/-- the words of a throw but the four that speak of the heap -/
def vx_no (w : Cond) : Bool := decide (w ≠ .isRef (.static Bundle.tN "UNASSIGNED_STACK" Bundle.steD)) && decide (w ≠ .isRef (.static Bundle.tN "SUPPRESSED_SENTINEL" Bundle.listD)) && decide (w ≠ .laysStatic Bundle.tN "UNASSIGNED_STACK" Bundle.steD) && decide (w ≠ .laysStatic Bundle.tN "SUPPRESSED_SENTINEL" Bundle.listD)
def vx_at0 (own : String) (ic : Nat) (X : String) (names : List String) : List Cond := (Bundle.ownAtoms0 own ic X names).filter vx_no
def vx_atS (own : String) (ic : Nat) (X : String) (names : List String) : List Cond := (Bundle.ownAtoms own ic X names).filter vx_no
/-- a word that the tables alone decide, or a good one -/
def vx_ot (w : Cond) : Bool := w.onTables || goodWord w
theorem vx_ot_at {args a' : Array Value} {s U : State} {w : Cond} (hW : s.WarmedH U.vm) (hvm : s.vm = U.vm) (hg : vx_ot w = true) (h : w.before args s = true) : w.before a' U = true := by
  simp only [vx_ot, Bool.or_eq_true] at hg
  rcases hg with hg | hg
  · exact va_tabs hg hvm h
  · exact word_at hW (good_of_word hg) h
/-- a list's words: the good ones out of the method's own list, the others by premises of their own -/
theorem vx_hat {args : Array Value} {s : State} {L B : List Cond} (h1 : ∀ w ∈ L.filter goodWord, w.before args s = true) (h2 : ∀ w ∈ L.filter (fun w => !goodWord w), w ∈ B) (h3 : ∀ w ∈ B, w.before args s = true) : ∀ w ∈ L, w.before args s = true := by
  intro w hw
  by_cases g : goodWord w = true
  · exact h1 w (List.mem_filter.mpr ⟨hw, g⟩)
  · refine h3 w (h2 w (List.mem_filter.mpr ⟨hw, ?_⟩))
    show (!goodWord w) = true
    cases hgw : goodWord w
    · rfl
    · exact absurd hgw g
theorem vx_c {args : Array Value} {s : State} {w : Cond} {B : List Cond} (h : w.before args s = true) (t : ∀ w ∈ B, w.before args s = true) : ∀ w' ∈ w :: B, w'.before args s = true := fun w' h' => (List.mem_cons.mp h').elim (fun e => by rw [e]; exact h) (t w')
theorem vx_n {args : Array Value} {s : State} : ∀ w ∈ ([] : List Cond), w.before args s = true := fun _ h => nomatch h
theorem vx_own {args : Array Value} {s : State} {L : List Cond} (h1 : ∀ w ∈ L.filter vx_no, w.before args s = true)
    (hU : (Cond.isRef (.static Bundle.tN "UNASSIGNED_STACK" Bundle.steD)).before args s = true) (hN : (Cond.isRef (.static Bundle.tN "SUPPRESSED_SENTINEL" Bundle.listD)).before args s = true)
    (lU : (Cond.laysStatic Bundle.tN "UNASSIGNED_STACK" Bundle.steD).before args s = true) (lN : (Cond.laysStatic Bundle.tN "SUPPRESSED_SENTINEL" Bundle.listD).before args s = true) : ∀ w ∈ L, w.before args s = true := by
  intro w hw
  by_cases e1 : w = .isRef (.static Bundle.tN "UNASSIGNED_STACK" Bundle.steD)
  · rw [e1]; exact hU
  · by_cases e2 : w = .isRef (.static Bundle.tN "SUPPRESSED_SENTINEL" Bundle.listD)
    · rw [e2]; exact hN
    · by_cases e3 : w = .laysStatic Bundle.tN "UNASSIGNED_STACK" Bundle.steD
      · rw [e3]; exact lU
      · by_cases e4 : w = .laysStatic Bundle.tN "SUPPRESSED_SENTINEL" Bundle.listD
        · rw [e4]; exact lN
        · exact h1 w (List.mem_filter.mpr ⟨hw, by unfold vx_no; rw [decide_eq_true e1, decide_eq_true e2, decide_eq_true e3, decide_eq_true e4]; rfl⟩)
/-- where a static field lies, its class's statics cell in H -/
def vx_L (C n d : String) (A : Nat → Prop) (U : State) (H : Heap) : Prop := ∃ (c : ClassId) (k : Class) (i : Nat) (f : Field) (a : Nat) (cell : Cell), U.vm.findClass C = some c ∧ U.fieldFound? C n d = some (c, k, i, f) ∧ f.isStatic = true ∧ k.statics = some a ∧ H[a]? = some cell ∧ cell.vm.isStatics = true ∧ cell.cls = c ∧ f.slot < cell.slots.size ∧ k.staticTypes[f.slot]? = some f.type ∧ ¬ A a
theorem vx_L.moved {C n d : String} {A : Nat → Prop} {u U : State} {H : Heap} (hvm : u.vm.Alike U.vm) (h : vx_L C n d A u H) : vx_L C n d A U H := by
  obtain ⟨c, k, i, f, a, cell, h1, h2, h3, h4, h5, h6, h7, h8, h9, h10⟩ := h
  obtain ⟨k', hi', he⟩ := State.fieldFound?_setVm hvm h2
  exact ⟨c, k', i, f, a, cell, by rw [hvm.findClass]; exact h1, hi', h3, by rw [he]; exact h4, h5, h6, h7, h8, by rw [he]; exact h9, h10⟩
theorem vx_L.kept {C n d : String} {A : Nat → Prop} {U : State} {H H1 : Heap} (h : vx_L C n d A U H) (hq : ∀ a : Nat, a < H.size → ¬ A a → H1[a]? = H[a]?) : vx_L C n d A U H1 := by
  obtain ⟨c, k, i, f, a, cell, h1, h2, h3, h4, h5, h6, h7, h8, h9, h10⟩ := h
  exact ⟨c, k, i, f, a, cell, h1, h2, h3, h4, by rw [hq a (Array.getElem?_eq_some_iff.mp h5).1 h10]; exact h5, h6, h7, h8, h9, h10⟩
theorem vx_L.narrow {C n d : String} {A B : Nat → Prop} {U : State} {H : Heap} (h : vx_L C n d A U H) (hAB : ∀ q, B q → A q) : vx_L C n d B U H := by
  obtain ⟨c, k, i, f, a, cell, h1, h2, h3, h4, h5, h6, h7, h8, h9, h10⟩ := h
  exact ⟨c, k, i, f, a, cell, h1, h2, h3, h4, h5, h6, h7, h8, h9, fun z => h10 (hAB _ z)⟩
theorem vx_L.word {C n d : String} {A : Nat → Prop} {s : State} {args : Array Value} (h : vx_L C n d A s s.heap) : (Cond.laysStatic C n d).before args s = true := by
  obtain ⟨c, k, i, f, a, cell, h1, h2, h3, h4, h5, h6, h7, h8, h9, -⟩ := h
  show (Cond.laysStatic C n d).holds args s none s [] = true
  exact Cond.laysStatic_of h1 h2 h3 h4 h5 h6 h7 h8 h9
/-- .. and what it holds: null or some reference -/
def vx_Zq (C n d : String) (A : Nat → Prop) (U : State) (H : Heap) : Prop := va_Zq C n d A U H ∧ vx_L C n d A U H
theorem vx_Zq.moved {C n d : String} {A : Nat → Prop} {u U : State} {H : Heap} (hvm : u.vm.Alike U.vm) (h : vx_Zq C n d A u H) : vx_Zq C n d A U H := ⟨va_Zq.moved hvm h.1, vx_L.moved hvm h.2⟩
theorem vx_Zq.kept {C n d : String} {A : Nat → Prop} {U : State} {H H1 : Heap} (h : vx_Zq C n d A U H) (hq : ∀ a : Nat, a < H.size → ¬ A a → H1[a]? = H[a]?) : vx_Zq C n d A U H1 := ⟨va_Zq.kept h.1 hq, vx_L.kept h.2 hq⟩
theorem vx_Zq.narrow {C n d : String} {A B : Nat → Prop} {U : State} {H : Heap} (h : vx_Zq C n d A U H) (hAB : ∀ q, B q → A q) : vx_Zq C n d B U H := ⟨va_Zq.narrow h.1 hAB, vx_L.narrow h.2 hAB⟩
theorem vx_Zqof {args : Array Value} {s : State} {C n d : String} {A : Nat → Prop} (hl : (Cond.laysStatic C n d).before args s = true) (hini : (Cond.initialized C).before args s = true) (h : (Cond.isRef (.static C n d)).before args s = true) (hA : ∀ a : Nat, a < s.heap.size → ¬ A a) : vx_Zq C n d A s s.heap := by
  refine ⟨va_Zqof hl hini h hA, ?_⟩
  obtain ⟨c, k, i, f, a, cell, h1, h2, h3, h4, h5, h6, h7, h8, h9⟩ := Cond.laysStatic_spec hl
  exact ⟨c, k, i, f, a, cell, h1, h2, h3, h4, h5, h6, h7, h8, h9, hA a (Array.getElem?_eq_some_iff.mp h5).1⟩
theorem vx_isRef {C n d : String} {v : Value} {A : Nat → Prop} {s : State} {args : Array Value} (h : va_Z C n d v A s s.heap) (hv : v.isRef = true) : (Cond.isRef (.static C n d)).before args s = true := by
  obtain ⟨cf, kf, fi, f, a, cell, h1, h2, h3, h4, h5, h6, h7, -⟩ := h
  have he : (Term.static C n d).eval args s none [] s = some v := by
    simp [Term.eval, State.fieldNamed?, h1, h2, h4, h5, h6, h7]
  simp only [Cond.before, Cond.holds, Cond.value, he]
  cases v <;> simp_all [Value.isRef]
theorem vx_isRefq {C n d : String} {A : Nat → Prop} {s : State} {args : Array Value} (h : va_Zq C n d A s s.heap) : (Cond.isRef (.static C n d)).before args s = true := by
  rcases h with h | ⟨t, h⟩
  · exact vx_isRef h rfl
  · exact vx_isRef h rfl
/-- the same frame, seen from here: as if the method were called anew in this heap -/
theorem vx_rebase {T : State} (X : Stand p l e R s m args below meth c T locs cells slots) {R' : Room} (hf : R'.frames ≤ R.frames) (hl : R'.locals ≤ R.locals) (hc : cells + R'.cells ≤ R.cells) (hs : slots + R'.slots ≤ R.slots) :
    Stand p l e R' ((T.setVm s.vm).setFrames (.invoking m args :: below)) m args below meth c T [] 0 0 := by
  have htop : (T.setVm s.vm).topJava?.isSome := X.here.top
  have hF : ((T.setVm s.vm).setFrames (.invoking m args :: below)).frames = .invoking m args :: below := State.frames_setFrames _ (State.cur_lt_of_top htop)
  obtain ⟨g₀, hg0⟩ := Option.isSome_iff_exists.mp htop
  obtain ⟨r, hr⟩ := State.topJava?_eq_some.mp hg0
  have hl9 : e.platform.stackLimits (T.setVm s.vm).me = e.platform.stackLimits s.me := X.limits
  have hb9 : (T.setVm s.vm).me.stackBytes = s.me.stackBytes := X.bytes
  refine ⟨X.admits, X.cas, X.clock, hF, ?_, X.hears, X.method, X.code, X.here, X.tail, X.warmed, ?_, ?_, ?_⟩
  · have h := X.room
    have hU : ((T.setVm s.vm).setFrames (.invoking m args :: below)).localsInUse = s.localsInUse := by
      rw [State.localsInUse_invoking hF (meth := meth) (c := c) X.method X.code, State.localsInUse_invoking X.frames X.method X.code]
    simp only [State.hasRoom, Bool.and_eq_true, decide_eq_true_eq] at h ⊢
    obtain ⟨⟨⟨⟨h1, h2, h3, h4, h5, h6⟩, h7⟩, h8⟩, h9⟩ := h
    rw [X.frames, List.length_cons] at h2 h3
    have q1 := X.heapSize
    have q2 := X.used
    simp only [hF, hU, List.length_cons, State.stackLimits_setFrames, State.stackBytes_setFrames, hl9, hb9]
    refine ⟨⟨⟨⟨by omega, by omega, by omega, by omega, by omega, h6⟩, ?_⟩, ?_⟩, X.book⟩
    · show T.heap.size + R'.cells ≤ e.platform.maxCells
      omega
    · show T.slotsUsed + R'.slots ≤ e.platform.maxSlots
      omega
  · rw [State.stackLimits_setFrames]; rfl
  · rw [State.stackBytes_setFrames]; rfl
  · refine ⟨?_, Nat.le_refl _, Nat.le_refl _, ?_, ?_, fun a c9 h9 => ⟨c9, h9, rfl, rfl, fun _ _ => rfl⟩⟩
    · obtain ⟨t, ht, -⟩ := State.frames_cons hr
      show T.setVm s.vm = { ((T.setVm s.vm).setFrames (.invoking m args :: below)).setFrames (T.setVm s.vm).frames with heap := T.heap, slotsUsed := T.slotsUsed }
      rw [State.setFrames_setFrames, State.setFrames_self ht]
      rfl
    · show T.slotsUsed = T.slotsUsed + ((T.heap.toList.drop T.heap.size).map (·.slots.size)).sum
      rw [List.drop_eq_nil_of_le (Nat.le_of_eq Array.length_toList)]
      rfl
    · show ((T.heap.toList.drop T.heap.size).map (·.slots.size)).sum ≤ 0
      rw [List.drop_eq_nil_of_le (Nat.le_of_eq Array.length_toList)]
      exact Nat.le_refl _
/-- 'throw new E()': new; dup; invokespecial; athrow -/
theorem vx_throw0 {cc : ByteArray} {pc : Nat} (hexec : p.tables.exec = Jvm.exec) (hb : c.code = cc) (hl : l.stackTraces = false) {own cls : String} {names : List String} {ik ic mc ms : Nat} {A : Nat → Prop}
    (hown : s.vm.findClass own = some m.cls) (hcls : Bundle.fit cls = true) (hnames : ∀ n ∈ names, Bundle.fit n = true)
    (hk : (Cond.classLink own ik cls).before args s = true) (hini : (Cond.initialized cls).before args s = true) (hat : ∀ w ∈ vx_at0 own ic cls names, w.before args s = true)
    (hgood : ∀ w ∈ Cond.classLink own ik cls :: Cond.initialized cls :: vx_at0 own ic cls names, vx_ot w = true)
    (hU : vx_Zq Bundle.tN "UNASSIGNED_STACK" Bundle.steD A s s.heap) (hN : vx_Zq Bundle.tN "SUPPRESSED_SENTINEL" Bundle.listD A s s.heap) (hS : va_S A s.heap H locs) (hsize : ls.size = c.maxLocals)
    (d0 : decode cc pc = .ok (.new ik, 3)) (d3 : decode cc (pc + 3) = .ok (.dup, 1)) (d4 : decode cc (pc + 4) = .ok (.invokespecial ic, 3)) (d7 : decode cc (pc + 7) = .ok (.athrow, 1))
    (hout : ∀ x ∈ c.exceptionTable.toList, covers x (pc + 7) = false)
    (hRframes : names.length + 3 < R.frames) (hRlocals : (rest.map fun v => v.category).sum + (13 * (names.length + 1) + 42) ≤ R.locals) (hRcells : cells + 1 ≤ R.cells) (hRslots : slots + 6 ≤ R.slots) (hlocks : meth.locks = false)
    (hx : ∀ t : State, s.vm.Alike t.vm → H.size ≤ t.heap.size → (∀ q : Nat, q < H.size → t.heap[q]? = H[q]?) → XC cls s t)
    (hf : ∀ z ∈ locs, free z.base) (hc : cells + 1 ≤ mc) (hs : slots + 6 ≤ ms) :
    W p l e R s m args below meth c H locs cells slots (vx_MQ below Qc XC args s mc ms free) (F0 m pc ls rest) := by
  intro T hT X
  have htr : e.platform.stackTraces = false := (show e.platform.stackTraces = l.stackTraces by rw [X.admits.platform]).trans hl
  have Y := vx_rebase X (R' := { frames := R.frames, locals := R.locals, cells := 1, slots := 6 }) (Nat.le_refl _) (Nat.le_refl _) hRcells hRslots
  obtain ⟨s', hA⟩ : ∃ z, z = (T.setVm s.vm).setFrames (.invoking m args :: below) := ⟨_, rfl⟩
  rw [← hA] at Y
  have hvm : s'.vm = s.vm := by rw [hA]; rfl
  have hhp : s'.heap = H := by rw [hA]; exact hT
  have hW0 : s.WarmedH s'.vm := by rw [hvm]; exact State.WarmedH.refl s
  have hat' : ∀ w ∈ vx_at0 own ic cls names, w.before args s' = true := fun w hw => vx_ot_at hW0 hvm.symm (hgood w (List.mem_cons_of_mem _ (List.mem_cons_of_mem _ hw))) (hat w hw)
  have hk' : (Cond.classLink own ik cls).before args s' = true := vx_ot_at hW0 hvm.symm (hgood _ List.mem_cons_self) hk
  have hini' : (Cond.initialized cls).before args s' = true := vx_ot_at hW0 hvm.symm (hgood _ (List.mem_cons_of_mem _ List.mem_cons_self)) hini
  have hU' : vx_Zq Bundle.tN "UNASSIGNED_STACK" Bundle.steD A s' s'.heap := by rw [hhp]; exact vx_Zq.moved hW0.alike (hU.kept hS.2.1)
  have hN' : vx_Zq Bundle.tN "SUPPRESSED_SENTINEL" Bundle.listD A s' s'.heap := by rw [hhp]; exact vx_Zq.moved hW0.alike (hN.kept hS.2.1)
  have h : ∀ w ∈ Bundle.ownAtoms0 own ic cls names, w.before args s' = true := vx_own hat' (vx_isRefq hU'.1) (vx_isRefq hN'.1) hU'.2.word hN'.2.word
  have hown' : s'.vm.findClass own = some m.cls := by rw [hvm]; exact hown
  have hins : (Cond.instantiable cls 6).before args s' = true := h _ (by simp [Bundle.ownAtoms0])
  obtain ⟨vm₁, cX, kX, hfX, hkX, -, -, X₁, st1⟩ := Y.newCold hexec (own := own) (C := cls) (index := ik) (n := 6) hown' hk' hins hini'
    (g := F0 m pc ls rest) rfl (by rw [hb]; exact d0) (Nat.le_refl _) (Nat.le_refl _)
  generalize hT1 : (T.setVm vm₁).pushCell { cls := cX, slots := kX.instanceTypes.map defaultValue, vm := .none } = T1 at X₁ st1
  have hcat : (Value.ref T.heap.size).category = 1 := rfl
  have hcellA : T1.heap[T.heap.size]? = some (freshCell cX kX) := by rw [← hT1]; exact State.heap_pushCell_size _ _
  have d3' : decode c.code (pc + 3) = .ok (.dup, 1) := by rw [hb]; exact d3
  obtain ⟨U, hsteps, hrun, hend, hW, hsame, ce, hce, hO⟩ := X₁.ctorThrow0 hexec htr (own := own) (cls := cls) (names := names) (ic := ic) hown' hcls hnames h (fun x hx => nomatch hx) hfX hkX hcellA (by rw [hhp, hT]; exact Nat.le_refl _)
    (g := { method := m, pc := pc + 4, locals := ls, stack := .ref T.heap.size :: .ref T.heap.size :: rest, locked := none }) rfl hsize rfl rfl (rest := rest) rfl
    (by rw [hb]; exact d4) (by rw [hb]; exact d7) hout hRframes (by simp only [List.map_cons, List.sum_cons, hcat]; omega) hlocks
  obtain ⟨f1, f2⟩ := vx_frame hsame
  rw [hhp] at f1 f2
  have hWs : s.WarmedH U.vm := State.WarmedH.trans hW0 hW
  have hcl : s.vm.findClass cls = some ce.cls := by
    have h9 := hO.cls
    rw [hvm] at h9
    exact h9
  have hall : s.sameButNew ({ U with vm := s.vm } : State) locs mc ms := by
    subst hA
    obtain ⟨e1, e2⟩ := hsame
    rw [State.setFrames_setFrames] at e1
    have h2 : (T.setVm s.vm).sameButNew ({ U with vm := s.vm } : State) [] (0 + 1) (0 + 6) := ⟨e1, e2⟩
    have h3 := X.same.trans h2
    rw [List.append_nil] at h3
    exact h3.mono hc hs
  refine ⟨U, ?_, .threw T.heap.size, hrun, hend, Or.inr ⟨T.heap.size, rfl, cls, ce, locs, hx U hWs.alike f1 (fun q hq => f2 q hq (fun z hz => nomatch hz)), hce, hO.vm, hcl, hWs, hall, hf⟩⟩
  refine st1 _ ?_
  show Steps p.tables e below (T1.setTop { method := m, pc := pc + 3, locals := ls, stack := .ref T.heap.size :: rest, locked := none }) _
  jvm_step X₁.here [X₁.here.top, hexec, d3', Value.category]
  exact hsteps
/-- 'throw new E("text")': new; dup; ldc; invokespecial; athrow -/
theorem vx_throwS {cc : ByteArray} {pc : Nat} (hexec : p.tables.exec = Jvm.exec) (hb : c.code = cc) (hl : l.stackTraces = false) {own cls text : String} {names : List String} {ik is ic mc ms sa : Nat} {A : Nat → Prop}
    (hown : s.vm.findClass own = some m.cls) (hcls : Bundle.fit cls = true) (hnames : ∀ n ∈ names, Bundle.fit n = true)
    (hk : (Cond.classLink own ik cls).before args s = true) (hini : (Cond.initialized cls).before args s = true) (hstr : vk_R own is text sa s) (hat : ∀ w ∈ vx_atS own ic cls names, w.before args s = true)
    (hgood : ∀ w ∈ Cond.classLink own ik cls :: Cond.initialized cls :: vx_atS own ic cls names, vx_ot w = true)
    (hU : vx_Zq Bundle.tN "UNASSIGNED_STACK" Bundle.steD A s s.heap) (hN : vx_Zq Bundle.tN "SUPPRESSED_SENTINEL" Bundle.listD A s s.heap) (hS : va_S A s.heap H locs) (hsize : ls.size = c.maxLocals)
    (d0 : decode cc pc = .ok (.new ik, 3)) (d3 : decode cc (pc + 3) = .ok (.dup, 1)) (d4 : decode cc (pc + 4) = .ok (.ldc is, 2)) (d6 : decode cc (pc + 6) = .ok (.invokespecial ic, 3)) (d9 : decode cc (pc + 9) = .ok (.athrow, 1))
    (hout : ∀ x ∈ c.exceptionTable.toList, covers x (pc + 9) = false)
    (hRframes : names.length + 3 < R.frames) (hRlocals : (rest.map fun v => v.category).sum + (13 * (names.length + 1) + 43) ≤ R.locals) (hRcells : cells + 1 ≤ R.cells) (hRslots : slots + 6 ≤ R.slots) (hlocks : meth.locks = false)
    (hx : ∀ t : State, s.vm.Alike t.vm → H.size ≤ t.heap.size → (∀ q : Nat, q < H.size → t.heap[q]? = H[q]?) → XC cls s t)
    (hf : ∀ z ∈ locs, free z.base) (hc : cells + 1 ≤ mc) (hs : slots + 6 ≤ ms) :
    W p l e R s m args below meth c H locs cells slots (vx_MQ below Qc XC args s mc ms free) (F0 m pc ls rest) := by
  intro T hT X
  have htr : e.platform.stackTraces = false := (show e.platform.stackTraces = l.stackTraces by rw [X.admits.platform]).trans hl
  have Y := vx_rebase X (R' := { frames := R.frames, locals := R.locals, cells := 1, slots := 6 }) (Nat.le_refl _) (Nat.le_refl _) hRcells hRslots
  obtain ⟨s', hA⟩ : ∃ z, z = (T.setVm s.vm).setFrames (.invoking m args :: below) := ⟨_, rfl⟩
  rw [← hA] at Y
  have hvm : s'.vm = s.vm := by rw [hA]; rfl
  have hhp : s'.heap = H := by rw [hA]; exact hT
  have hW0 : s.WarmedH s'.vm := by rw [hvm]; exact State.WarmedH.refl s
  have hat' : ∀ w ∈ vx_atS own ic cls names, w.before args s' = true := fun w hw => vx_ot_at hW0 hvm.symm (hgood w (List.mem_cons_of_mem _ (List.mem_cons_of_mem _ hw))) (hat w hw)
  have hk' : (Cond.classLink own ik cls).before args s' = true := vx_ot_at hW0 hvm.symm (hgood _ List.mem_cons_self) hk
  have hini' : (Cond.initialized cls).before args s' = true := vx_ot_at hW0 hvm.symm (hgood _ (List.mem_cons_of_mem _ List.mem_cons_self)) hini
  have hU' : vx_Zq Bundle.tN "UNASSIGNED_STACK" Bundle.steD A s' s'.heap := by rw [hhp]; exact vx_Zq.moved hW0.alike (hU.kept hS.2.1)
  have hN' : vx_Zq Bundle.tN "SUPPRESSED_SENTINEL" Bundle.listD A s' s'.heap := by rw [hhp]; exact vx_Zq.moved hW0.alike (hN.kept hS.2.1)
  have h : ∀ w ∈ Bundle.ownAtoms own ic cls names, w.before args s' = true := vx_own hat' (vx_isRefq hU'.1) (vx_isRefq hN'.1) hU'.2.word hN'.2.word
  have hown' : s'.vm.findClass own = some m.cls := by rw [hvm]; exact hown
  have hins : (Cond.instantiable cls 6).before args s' = true := h _ (by simp [Bundle.ownAtoms])
  obtain ⟨vm₁, cX, kX, hfX, hkX, -, -, X₁, st1⟩ := Y.newCold hexec (own := own) (C := cls) (index := ik) (n := 6) hown' hk' hins hini'
    (g := F0 m pc ls rest) rfl (by rw [hb]; exact d0) (Nat.le_refl _) (Nat.le_refl _)
  generalize hT1 : (T.setVm vm₁).pushCell { cls := cX, slots := kX.instanceTypes.map defaultValue, vm := .none } = T1 at X₁ st1
  have hcat : (Value.ref T.heap.size).category = 1 := rfl
  have hcellA : T1.heap[T.heap.size]? = some (freshCell cX kX) := by rw [← hT1]; exact State.heap_pushCell_size _ _
  have d3' : decode c.code (pc + 3) = .ok (.dup, 1) := by rw [hb]; exact d3
  have d4' : decode c.code (pc + 4) = .ok (.ldc is, 2) := by rw [hb]; exact d4
  have hstr' : vk_R own is text sa s' := vk_R.warm hW0 hstr
  obtain ⟨U, hsteps, hrun, hend, hW, hsame, ce, hce, hO⟩ := X₁.ctorThrowS hexec htr (own := own) (cls := cls) (names := names) (ic := ic) hown' hcls hnames h (fun x hx => nomatch hx) hfX hkX hcellA (by rw [hhp, hT]; exact Nat.le_refl _) (msg := .ref sa) rfl
    (g := { method := m, pc := pc + 6, locals := ls, stack := .ref sa :: .ref T.heap.size :: .ref T.heap.size :: rest, locked := none }) rfl hsize rfl rfl (rest := rest) rfl
    (by rw [hb]; exact d6) (by rw [hb]; exact d9) hout hRframes (by simp only [List.map_cons, List.sum_cons, hcat]; omega) hlocks
  obtain ⟨f1, f2⟩ := vx_frame hsame
  rw [hhp] at f1 f2
  have hWs : s.WarmedH U.vm := State.WarmedH.trans hW0 hW
  have hcl : s.vm.findClass cls = some ce.cls := by
    have h9 := hO.cls
    rw [hvm] at h9
    exact h9
  have hall : s.sameButNew ({ U with vm := s.vm } : State) locs mc ms := by
    subst hA
    obtain ⟨e1, e2⟩ := hsame
    rw [State.setFrames_setFrames] at e1
    have h2 : (T.setVm s.vm).sameButNew ({ U with vm := s.vm } : State) [] (0 + 1) (0 + 6) := ⟨e1, e2⟩
    have h3 := X.same.trans h2
    rw [List.append_nil] at h3
    exact h3.mono hc hs
  refine ⟨U, ?_, .threw T.heap.size, hrun, hend, Or.inr ⟨T.heap.size, rfl, cls, ce, locs, hx U hWs.alike f1 (fun q hq => f2 q hq (fun z hz => nomatch hz)), hce, hO.vm, hcl, hWs, hall, hf⟩⟩
  refine st1 _ ?_
  show Steps p.tables e below (T1.setTop { method := m, pc := pc + 3, locals := ls, stack := .ref T.heap.size :: rest, locked := none }) _
  jvm_step X₁.here [X₁.here.top, hexec, d3', Value.category]
  exact X₁.ldcString hexec (own := own) (text := text) (index := is) (a := sa) hown' hstr'.1 hstr'.2
    (g := { method := m, pc := pc + 4, locals := ls, stack := .ref T.heap.size :: .ref T.heap.size :: rest, locked := none }) rfl d4' _ hsteps
/-- 'throw new E("text")', the text by a wide index -/
theorem vx_throwSW {cc : ByteArray} {pc : Nat} (hexec : p.tables.exec = Jvm.exec) (hb : c.code = cc) (hl : l.stackTraces = false) {own cls text : String} {names : List String} {ik is ic mc ms sa : Nat} {A : Nat → Prop}
    (hown : s.vm.findClass own = some m.cls) (hcls : Bundle.fit cls = true) (hnames : ∀ n ∈ names, Bundle.fit n = true)
    (hk : (Cond.classLink own ik cls).before args s = true) (hini : (Cond.initialized cls).before args s = true) (hstr : vk_R own is text sa s) (hat : ∀ w ∈ vx_atS own ic cls names, w.before args s = true)
    (hgood : ∀ w ∈ Cond.classLink own ik cls :: Cond.initialized cls :: vx_atS own ic cls names, vx_ot w = true)
    (hU : vx_Zq Bundle.tN "UNASSIGNED_STACK" Bundle.steD A s s.heap) (hN : vx_Zq Bundle.tN "SUPPRESSED_SENTINEL" Bundle.listD A s s.heap) (hS : va_S A s.heap H locs) (hsize : ls.size = c.maxLocals)
    (d0 : decode cc pc = .ok (.new ik, 3)) (d3 : decode cc (pc + 3) = .ok (.dup, 1)) (d4 : decode cc (pc + 4) = .ok (.ldc_w is, 3)) (d7 : decode cc (pc + 7) = .ok (.invokespecial ic, 3)) (d10 : decode cc (pc + 10) = .ok (.athrow, 1))
    (hout : ∀ x ∈ c.exceptionTable.toList, covers x (pc + 10) = false)
    (hRframes : names.length + 3 < R.frames) (hRlocals : (rest.map fun v => v.category).sum + (13 * (names.length + 1) + 43) ≤ R.locals) (hRcells : cells + 1 ≤ R.cells) (hRslots : slots + 6 ≤ R.slots) (hlocks : meth.locks = false)
    (hx : ∀ t : State, s.vm.Alike t.vm → H.size ≤ t.heap.size → (∀ q : Nat, q < H.size → t.heap[q]? = H[q]?) → XC cls s t)
    (hf : ∀ z ∈ locs, free z.base) (hc : cells + 1 ≤ mc) (hs : slots + 6 ≤ ms) :
    W p l e R s m args below meth c H locs cells slots (vx_MQ below Qc XC args s mc ms free) (F0 m pc ls rest) := by
  intro T hT X
  have htr : e.platform.stackTraces = false := (show e.platform.stackTraces = l.stackTraces by rw [X.admits.platform]).trans hl
  have Y := vx_rebase X (R' := { frames := R.frames, locals := R.locals, cells := 1, slots := 6 }) (Nat.le_refl _) (Nat.le_refl _) hRcells hRslots
  obtain ⟨s', hA⟩ : ∃ z, z = (T.setVm s.vm).setFrames (.invoking m args :: below) := ⟨_, rfl⟩
  rw [← hA] at Y
  have hvm : s'.vm = s.vm := by rw [hA]; rfl
  have hhp : s'.heap = H := by rw [hA]; exact hT
  have hW0 : s.WarmedH s'.vm := by rw [hvm]; exact State.WarmedH.refl s
  have hat' : ∀ w ∈ vx_atS own ic cls names, w.before args s' = true := fun w hw => vx_ot_at hW0 hvm.symm (hgood w (List.mem_cons_of_mem _ (List.mem_cons_of_mem _ hw))) (hat w hw)
  have hk' : (Cond.classLink own ik cls).before args s' = true := vx_ot_at hW0 hvm.symm (hgood _ List.mem_cons_self) hk
  have hini' : (Cond.initialized cls).before args s' = true := vx_ot_at hW0 hvm.symm (hgood _ (List.mem_cons_of_mem _ List.mem_cons_self)) hini
  have hU' : vx_Zq Bundle.tN "UNASSIGNED_STACK" Bundle.steD A s' s'.heap := by rw [hhp]; exact vx_Zq.moved hW0.alike (hU.kept hS.2.1)
  have hN' : vx_Zq Bundle.tN "SUPPRESSED_SENTINEL" Bundle.listD A s' s'.heap := by rw [hhp]; exact vx_Zq.moved hW0.alike (hN.kept hS.2.1)
  have h : ∀ w ∈ Bundle.ownAtoms own ic cls names, w.before args s' = true := vx_own hat' (vx_isRefq hU'.1) (vx_isRefq hN'.1) hU'.2.word hN'.2.word
  have hown' : s'.vm.findClass own = some m.cls := by rw [hvm]; exact hown
  have hins : (Cond.instantiable cls 6).before args s' = true := h _ (by simp [Bundle.ownAtoms])
  obtain ⟨vm₁, cX, kX, hfX, hkX, -, -, X₁, st1⟩ := Y.newCold hexec (own := own) (C := cls) (index := ik) (n := 6) hown' hk' hins hini'
    (g := F0 m pc ls rest) rfl (by rw [hb]; exact d0) (Nat.le_refl _) (Nat.le_refl _)
  generalize hT1 : (T.setVm vm₁).pushCell { cls := cX, slots := kX.instanceTypes.map defaultValue, vm := .none } = T1 at X₁ st1
  have hcat : (Value.ref T.heap.size).category = 1 := rfl
  have hcellA : T1.heap[T.heap.size]? = some (freshCell cX kX) := by rw [← hT1]; exact State.heap_pushCell_size _ _
  have d3' : decode c.code (pc + 3) = .ok (.dup, 1) := by rw [hb]; exact d3
  have d4' : decode c.code (pc + 4) = .ok (.ldc_w is, 3) := by rw [hb]; exact d4
  have hstr' : vk_R own is text sa s' := vk_R.warm hW0 hstr
  obtain ⟨U, hsteps, hrun, hend, hW, hsame, ce, hce, hO⟩ := X₁.ctorThrowS hexec htr (own := own) (cls := cls) (names := names) (ic := ic) hown' hcls hnames h (fun x hx => nomatch hx) hfX hkX hcellA (by rw [hhp, hT]; exact Nat.le_refl _) (msg := .ref sa) rfl
    (g := { method := m, pc := pc + 7, locals := ls, stack := .ref sa :: .ref T.heap.size :: .ref T.heap.size :: rest, locked := none }) rfl hsize rfl rfl (rest := rest) rfl
    (by rw [hb]; exact d7) (by rw [hb]; exact d10) hout hRframes (by simp only [List.map_cons, List.sum_cons, hcat]; omega) hlocks
  obtain ⟨f1, f2⟩ := vx_frame hsame
  rw [hhp] at f1 f2
  have hWs : s.WarmedH U.vm := State.WarmedH.trans hW0 hW
  have hcl : s.vm.findClass cls = some ce.cls := by
    have h9 := hO.cls
    rw [hvm] at h9
    exact h9
  have hall : s.sameButNew ({ U with vm := s.vm } : State) locs mc ms := by
    subst hA
    obtain ⟨e1, e2⟩ := hsame
    rw [State.setFrames_setFrames] at e1
    have h2 : (T.setVm s.vm).sameButNew ({ U with vm := s.vm } : State) [] (0 + 1) (0 + 6) := ⟨e1, e2⟩
    have h3 := X.same.trans h2
    rw [List.append_nil] at h3
    exact h3.mono hc hs
  refine ⟨U, ?_, .threw T.heap.size, hrun, hend, Or.inr ⟨T.heap.size, rfl, cls, ce, locs, hx U hWs.alike f1 (fun q hq => f2 q hq (fun z hz => nomatch hz)), hce, hO.vm, hcl, hWs, hall, hf⟩⟩
  refine st1 _ ?_
  show Steps p.tables e below (T1.setTop { method := m, pc := pc + 3, locals := ls, stack := .ref T.heap.size :: rest, locked := none }) _
  jvm_step X₁.here [X₁.here.top, hexec, d3', Value.category]
  exact X₁.ldcStringW hexec (own := own) (text := text) (index := is) (a := sa) hown' hstr'.1 hstr'.2
    (g := { method := m, pc := pc + 4, locals := ls, stack := .ref T.heap.size :: .ref T.heap.size :: rest, locked := none }) rfl d4' _ hsteps
end Ends
section Bodies
variable {l : Launch}
theorem vx_ofW {y : MethodName} {ws ws' : List Cond} {rm : Room} {Pc : Array Value → State → Prop} {Qc : Array Value → State → Outcome → State → Prop} {XC : String → State → State → Prop} {mc ms : Nat} {free : Addr → Prop} {cc : ByteArray} {maxL : Nat} {ret : Option FieldType}
    (hy : plainName y.cls = true) (hw : ws = Cond.code y cc maxL ret :: ws')
    (body : ∀ p e s m args below meth c s₁, BodyLoose p l y (headSpec ws rm) cc maxL ret e s m args below meth c s₁ → c.maxLocals = maxL → (∀ x ∈ c.exceptionTable.toList, False) → Pc args s →
      W p l e (headSpec ws rm).room s m args below meth c s.heap [] 0 0 (vx_MQ below Qc XC args s mc ms free) (entryFrame m args maxL)) : vx_Met l y ws rm Pc Qc XC mc ms free := by
  refine MetFree.of_bodyS (code := cc) (maxLocals := maxL) (ret := ret) hy ?_ ?_
  · intro args s m h hn
    obtain ⟨meth, c, h1, h2, h3, h4, h5, h6, -, -⟩ := Cond.code_spec hn (atoms_spec (ws := ws) h _ (by rw [hw]; exact List.mem_cons_self))
    exact ⟨meth, c, h1, h2, h3, h4, h5, h6⟩
  · intro p e s m args below meth c s₁ B hml hP _
    have hh0 : s₁.heap = s.heap := by rw [B.state]; rfl
    have ht : ∀ x ∈ c.exceptionTable.toList, False := by
      obtain ⟨meth9, c9, h1, h2, -, -, -, -, h7, -⟩ := Cond.code_spec B.named (atoms_spec (ws := ws) B.pre _ (by rw [hw]; exact List.mem_cons_self))
      cases Option.some.inj (h1.symm.trans B.method)
      cases Option.some.inj (h2.symm.trans (Stand.of_body B).code)
      intro x hx
      rw [Array.isEmpty_iff.mp h7] at hx
      cases hx
    obtain ⟨t, a1, o, b1, b2, b3⟩ := body p e s m args below meth c s₁ B hml ht hP s₁ hh0 (Stand.of_body B)
    exact ⟨t, o, a1, b1, b2, b3⟩
/-- the table of a body with handlers -/
theorem vx_table {p : Program} {x y : MethodName} {S : Spec} {cc bytes : ByteArray} {maxL maxL' : Nat} {ret ret' : Option FieldType} {e : Env} {s s₁ : State} {m : MethodId} {args : Array Value} {below : List Frame} {meth : Method} {c : Code} {hh : List (Nat × Nat × Nat × Nat)}
    (B : BodyLoose p l y S cc maxL ret e s m args below meth c s₁) (h : (Cond.codeWith y bytes maxL' ret' hh).before args s = true) : c.exceptionTable.toList = tableOf hh := by
  obtain ⟨m9, meth9, c9, hn9, h1, h2, -, -, h6, -⟩ := Cond.codeWith_spec h
  cases Option.some.inj (hn9.symm.trans B.named)
  cases Option.some.inj (h1.symm.trans B.method)
  cases Option.some.inj (h2.symm.trans (Stand.of_body B).code)
  rw [← h6, table_eq]
end Bodies
end VXA
/-! ===== END ===== -/
/-! ===== BEGIN a static call of a method with an exception table ===== -/
section VXS
variable {p : Program} {l : Launch} {e : Env} {R : Room} {s : State} {m : MethodId} {args : Array Value} {below : List Frame} {meth : Method} {c : Code} {T : State} {H : Heap} {locs : List Loc} {cells slots : Nat}
abbrev vx_CSW (R : Room) (s : State) (args : Array Value) (own : String) (index : Nat) (y : MethodName) (bytes : ByteArray) (maxL : Nat) (ret : Option FieldType) (hh : List (Nat × Nat × Nat × Nat)) (ws : List Cond) (rm : Room) (mc ms n : Nat) : Prop :=
  (rm.cells = mc ∧ rm.slots = ms ∧ rm.frames + 1 ≤ R.frames ∧ 8 + (maxL + 11) + rm.locals ≤ R.locals ∧ (∀ w ∈ ws, ∀ (a' : Array Value) (U : State), s.WarmedH U.vm → w.before a' U = true) ∧ Cond.codeWith y bytes maxL ret hh ∈ ws) ∧
  (Cond.codeWith y bytes maxL ret hh).before args s = true ∧ (Cond.initialized y.cls).before args s = true ∧ (y.cls ≠ "java/lang/invoke/MethodHandle" ∧ y.cls ≠ "java/lang/invoke/VarHandle") ∧
  (∀ sig, parseMethodDescriptor y.desc = some sig → n = sig.parameters.length) ∧ (Cond.methodLink own index y).before args s = true ∧ (Cond.static y).before args s = true
theorem vx_cwSW {own : String} {index maxL mc ms : Nat} {y : MethodName} {bytes : ByteArray} {ret : Option FieldType} {hh : List (Nat × Nat × Nat × Nat)} {Ts ws ws' : List Cond} {rm : Room} (n : Nat) (ht : ∀ w ∈ Ts, w.before args s = true) (hT : GoodIn Ts (va_wsS own index y ws)) (hw : ws = Cond.codeWith y bytes maxL ret hh :: ws') (hrc : rm.cells = mc) (hrs : rm.slots = ms)
    (hd : y.cls ≠ "java/lang/invoke/MethodHandle" ∧ y.cls ≠ "java/lang/invoke/VarHandle" ∧ (parseMethodDescriptor y.desc).map (fun d => d.parameters.length) = some n) (hR : rm.frames + 1 ≤ R.frames ∧ 8 + (maxL + 11) + rm.locals ≤ R.locals) :
    vx_CSW R s args own index y bytes maxL ret hh ws rm mc ms n := by
  have ok : ∀ w ∈ va_wsS own index y ws, w.before args s = true := fun w h => ht w (hT w h).1
  have hG : GoodIn Ts ws := fun w h => hT w (by unfold va_wsS; exact List.mem_append_right _ h)
  have hc : Cond.codeWith y bytes maxL ret hh ∈ ws := by rw [hw]; exact List.mem_cons_self
  refine ⟨⟨hrc, hrs, hR.1, hR.2, pay_in ht hG, hc⟩, ht _ (hG _ hc).1, ok _ (by simp [va_wsS]), ⟨hd.1, hd.2.1⟩, fun sig h => ?_, ok _ (by simp [va_wsS]), ok _ (by simp [va_wsS])⟩
  have h2 := hd.2.2
  rw [h] at h2
  exact (Option.some.inj h2).symm
theorem vx_callSW (X : Stand p l e R s m args below meth c T locs cells slots) (hexec : p.tables.exec = Jvm.exec) {own : String} {index : Nat} {y : MethodName} {bytes : ByteArray} {maxL : Nat} {ret : Option FieldType} {hh : List (Nat × Nat × Nat × Nat)}
    (hown : s.vm.findClass own = some m.cls) (hlink : (Cond.methodLink own index y).before args s = true) (hstat : (Cond.static y).before args s = true) (hinit : (Cond.initialized y.cls).before args s = true)
    (hcode : (Cond.codeWith y bytes maxL ret hh).before args s = true) (hy : y.cls ≠ "java/lang/invoke/MethodHandle" ∧ y.cls ≠ "java/lang/invoke/VarHandle")
    {W9 : Nat} {Pre : Pt → Array Value → Prop} {Post : Pt → Array Value → Option Value → Pt → Prop} (hK : Back l R p e below s args y 3 W9 Pre Post)
    {g : JFrame} (hg : g.method = m) (hsize : g.locals.size = c.maxLocals) {argsL rest : List Value} (hlen : ∀ sig, parseMethodDescriptor y.desc = some sig → argsL.length = sig.parameters.length)
    (hstack : g.stack = argsL.reverse ++ rest) (hW : 2 * g.monitorRoom + (rest.map fun v => v.category).sum ≤ W9) (hdg : decode c.code g.pc = .ok (.invokestatic index, 3))
    (hpre : ∀ vm₁, s.WarmedH vm₁ → Pre ⟨T.setVm vm₁, locs, cells, slots⟩ argsL.toArray) :
    ∃ (v : Option Value) (vm₁ : Vm) (B : Pt), s.WarmedH vm₁ ∧ Stand p l e R s m args below meth c B.U B.locs B.cells B.slots ∧ Post ⟨T.setVm vm₁, locs, cells, slots⟩ argsL.toArray v B ∧
      ∀ target, Steps p.tables e below (B.U.setTop { g with pc := g.pc + 3, stack := v.toList ++ rest }) target → Steps p.tables e below (T.setTop g) target := by
  obtain ⟨mk, methM, cM, hnamed, hmethM, -, -, -, -, -, -, hsigM⟩ := Cond.codeWith_spec hcode
  have hstatic : methM.isStatic = true := Cond.static_spec hnamed hmethM hstat
  obtain ⟨kP, hkP, -⟩ := className_of_methodNamed hnamed
  have hinitP : kP.init = .initialized := Cond.initialized_spec (findClass_of_methodNamed hnamed) hkP hinit
  obtain ⟨vm₁, X₁, hstep₁⟩ := X.invokestatic hexec hown hlink hnamed hmethM hstatic hkP hinitP hy (g := g) hg (argsL := argsL) (rest := rest) (hlen _ hsigM) hstack hdg
  obtain ⟨v, B, X', hpost, hsteps⟩ := hK m meth c ⟨T.setVm vm₁, locs, cells, slots⟩ { g with stack := rest } (.invokestatic index) mk argsL.toArray X₁ hg hsize hdg hW (X₁.named hnamed) (hpre vm₁ X₁.warmed)
  exact ⟨v, vm₁, B, X₁.warmed, X', hpost, fun target h => hstep₁ _ fun acts => by rw [doInvoke_state]; exact hsteps.trans h⟩
theorem vx_runSW {y : MethodName} {bytes cc : ByteArray} {maxL nL mc ms n index : Nat} {ret : Option FieldType} {hh : List (Nat × Nat × Nat × Nat)} {ws : List Cond} {rm : Room} {Pc : Array Value → State → Prop} {Qc : Array Value → State → Outcome → State → Prop} {free : Addr → Prop} {Ts : List Cond} {own : String} {As rest : List Value} {g : JFrame}
    (S : CallFix p m c cc nL s args Ts own) (hM : Met l y ws rm Pc Qc mc ms free) (cw : vx_CSW R s args own index y bytes maxL ret hh ws rm mc ms n) (hp : PreS s H Pc As)
    (hg : g.method = m) (hn : As.length = n) (hsize : g.locals.size = nL) (hstack : g.stack = As.reverse ++ rest) (hW : 2 * g.monitorRoom + (rest.map fun v => v.category).sum ≤ 8) (hdg : decode cc g.pc = .ok (.invokestatic index, 3)) (hf : cells + mc ≤ R.cells ∧ slots + ms ≤ R.slots) :
    va_Run p l e R s m args below meth c H locs cells slots mc ms g rest (Qc As.toArray) (free) := by
  obtain ⟨⟨hrc, hrs, hfr, hlo, hws, hcw⟩, hcode, hini, hy, hlen, hl, hstt⟩ := cw
  have hK : Back l R p e below s args y 3 8 (PreOf R mc ms Pc) (PostOf Qc mc ms free) := va_backW (hh := hh) (bytes := bytes) (maxL := maxL) (ret := ret) hM hp.1 hrc hrs hfr hlo hws hcw (fun a' U hW => word_at hW (Or.inl (by first | rfl | simp [Cond.onTables, Cond.keeps, Cond.steady])) hini)
  obtain ⟨hx, hb, hml, ho, -⟩ := S
  intro T hT X
  obtain ⟨v, vm₁, ⟨U', l2, c2, s2⟩, hW₁, X', ⟨g', mk, t, L, e1, e2, hq, h1, hL, h2, h3⟩, st⟩ := vx_callSW X hx (hh := hh) (bytes := bytes) (maxL := maxL) (ret := ret) ho hl hstt hini hcode hy hK hg (hsize.trans hml.symm) (argsL := As) (rest := rest) (fun sig h => hn.trans (hlen sig h)) hstack hW (by rw [hb]; exact hdg)
    (fun vm₁ hW₁ => ⟨hf.1, hf.2, hp.2 (T.setVm vm₁) hT hW₁⟩)
  dsimp only [Pt.U, Pt.locs, Pt.cells, Pt.slots] at X' e1 e2 h1 h2 h3 st
  subst h1; subst h2; subst h3
  exact ⟨v, (T.setVm vm₁).calling g' mk As.toArray, t, U', L, hT, X', hL, e1, e2, hq, st⟩
/-- not caught here, past rows that name other classes: it goes on to the caller -/
theorem vx_outP {p : Program} {l : Launch} {e : Env} {R : Room} {s : State} {m : MethodId} {args : Array Value} {below : List Frame} {meth : Method} {c : Code} {H : Heap} {locs : List Loc} {cells slots : Nat} {free : Addr → Prop} {ls : Array Slot} {rest : List Value} {Qc : Array Value → State → Outcome → State → Prop} {XC : String → State → State → Prop}
    {pc : Nat} {own E : String} {ce : Cell} {q : Addr} {mc ms : Nat} (hown : s.vm.findClass own = some m.cls) (hlocks : meth.locks = false)
    (hpass : ∀ z ∈ c.exceptionTable.toList, covers z pc = false ∨ (z.catchType ≠ 0 ∧ ∃ nm : String, (Cond.classLink own z.catchType nm).before args s = true ∧ va_Nc E nm s)) (hcell : H[q]? = some ce) (hv : ce.vm = .none) (hcl : s.vm.findClass E = some ce.cls)
    (hx : ∀ t : State, t.heap = H → s.vm.Alike t.vm → XC E s t) (hf : ∀ z ∈ locs, free z.base) (hc : cells ≤ mc) (hs : slots ≤ ms) :
    vx_W p l e R s m args below meth c H locs cells slots (vx_MQ below Qc XC args s mc ms free) (F0 m pc ls rest) q := by
  intro T hT X
  have hpl : e.platform.magicAccessors = ({} : Platform).magicAccessors := by rw [X.admits.platform]
  obtain ⟨vm', hW', X', st⟩ := Stand.outThrough X hlocks q (g := F0 m pc ls rest) rfl rfl rfl (cell := ce) (by rw [hT]; exact hcell) (by rw [hv]; rfl)
    (by obtain ⟨k9, h9, -⟩ := Vm.findClass_spec hcl; exact ⟨k9, h9⟩) (fun z hz => by
      rcases hpass z hz with h | ⟨hz0, nm, hl1, hn1⟩
      · exact Or.inl h
      · obtain ⟨c6, hc6, hcl6⟩ := Cond.classLink_spec hown hl1 e.platform hpl
        obtain ⟨a8, b8, h1, h2, h3⟩ := hn1
        cases Option.some.inj (h1.symm.trans hcl)
        cases Option.some.inj (h2.symm.trans hc6)
        exact Or.inr ⟨hz0, _, hcl6, h3⟩)
  obtain ⟨g₀, hfr⟩ := X'.frames_eq
  have hcell9 : ((T.setVm vm').setFrames (.throwing q :: below)).heap[q]? = some ce := by
    show T.heap[q]? = some ce
    rw [hT]; exact hcell
  have hend : Ended ((T.setVm vm').setFrames (.throwing q :: below)) below (.threw q) := State.frames_setFrames _ (State.cur_lt_of_frames hfr)
  refine ⟨(T.setVm vm').setFrames (.throwing q :: below), ?_, .threw q, X'.here.running, hend, Or.inr ⟨q, rfl, E, ce, locs, hx _ hT (X'.ends _).1.alike, hcell9, hv, hcl, (X'.ends _).1, (X'.ends _).2.mono hc hs, hf⟩⟩
  rw [X.pushThrowing_eq]
  exact st
/-- a thing of a world lies in the heap -/
theorem vx_lt {D : va_G} {cl : List vw_C} {ws : va_W} {H1 : Heap} (h : va_P D cl ws H1) {k : Nat} {q : Nat × va_E} (hk : ws[k]? = some q) : q.1 < H1.size := (h k q hk).lt
end VXS
/-! ===== END ===== -/
/-! ===== BEGIN methods with a table of their own: called by a name, returning or throwing ===== -/
section VXH
/-! vx_backW, vx_callVX, vx_callSX, vx_callVW, vx_runVW, vx_runVX, vx_runSX, vx_ofWH follow the same proofs as their sisters above (Free/Laws.lean, Shelf42/LK1.lean); vx_outP calls Shelf42/NT130.lean (outThrough). -/
section
variable {l : Launch} {R : Room} {p : Program} {e : Env} {below : List Frame} {s : State} {sargs : Array Value} {y : MethodName} {len W9 : Nat}
theorem vx_backW {ws : List Cond} {rm : Room} {Pc : Array Value → State → Prop} {Qc : Array Value → State → Outcome → State → Prop} {XC : String → State → State → Prop} {mc ms : Nat} {free : Addr → Prop} {bytes : ByteArray} {maxL : Nat} {ret : Option FieldType} {hh : List (Nat × Nat × Nat × Nat)}
    (hM : vx_Met l y ws rm Pc Qc XC mc ms free) (hblind : FrameBlind Pc) (hrc : rm.cells = mc) (hrs : rm.slots = ms)
    (hframes : rm.frames + 1 ≤ R.frames) (hlocals : W9 + (maxL + 11) + rm.locals ≤ R.locals)
    (hws : ∀ w ∈ ws, ∀ a' U, s.WarmedH U.vm → w.before a' U = true) (hcode : Cond.codeWith y bytes maxL ret hh ∈ ws) (hinit : ∀ a' U, s.WarmedH U.vm → (Cond.initialized y.cls).before a' U = true) :
    vx_Back l R p e below s sargs y len W9 (PreOf R mc ms Pc) (PostOf Qc mc ms free) (vx_Post XC mc ms free) := by
  intro m meth c A g ig mk a X hg hsize hdg hW hn hp
  have h1 : (headSpec ws rm).pre.before a A.U = true := atoms_intro fun w hw => hws w hw _ _ X.warmed
  have h2 : (Cond.codeWith y bytes maxL ret hh).before a A.U = true := hws _ hcode _ _ X.warmed
  have h3 : (Cond.initialized y.cls).before a A.U = true := hinit _ _ X.warmed
  have h4 : A.cells + (headSpec ws rm).room.cells ≤ R.cells := by rw [show (headSpec ws rm).room.cells = mc from hrc]; exact hp.1
  have h5 : A.slots + (headSpec ws rm).room.slots ≤ R.slots := by rw [show (headSpec ws rm).room.slots = ms from hrs]; exact hp.2.1
  have hPc : Pc a (A.U.calling g mk a) := hblind _ _ _ _ hp.2.2
  obtain ⟨U, Ls, c0, s0⟩ := A
  dsimp only [Pt.U, Pt.locs, Pt.cells, Pt.slots] at h1 h2 h3 h4 h5 X hn hPc ⊢
  obtain ⟨m9, methY, cY, hn9, hmY, hcY, -, hlY, -⟩ := Cond.codeWith_spec h2
  cases Option.some.inj (hn9.symm.trans hn)
  obtain ⟨kY, hkY, -⟩ := className_of_methodNamed hn
  have hinitY : kY.init = .initialized := Cond.initialized_spec (findClass_of_methodNamed hn) hkY h3
  have h : At U g.method c below := by rw [hg]; exact X.here
  have hlocals9 : W9 + (maxL + 11) + (headSpec ws rm).room.locals ≤ R.locals := hlocals
  have happ : (headSpec ws rm).appliesLoose y e.platform (U.calling g mk a) = true :=
    Spec.appliesLoose_calling (g := g) h hdg hn hkY hinitY
      (X.room_calling (g := g) (R' := (headSpec ws rm).room) hsize hmY hcY hframes (by rw [hlY]; omega) h4 h5) h1
  obtain ⟨mid, hmid⟩ := h.above
  have hfr : (U.setTop g).frames = (.java g :: mid) ++ below := by rw [State.frames_setTop' g h.top, hmid]; rfl
  obtain ⟨o, s₂, hsteps, -, hend, hq⟩ := Steps.callFree hM p X.admits X.cas X.clock (acts := []) hfr happ hPc trivial
  have hq' : vx_Q Qc XC mc ms free a (U.calling g mk a) o s₂ := hq
  rw [State.frames_setTop' g h.top] at hend
  obtain ⟨g₀, hg0⟩ := Option.isSome_iff_exists.mp h.top
  obtain ⟨r, hr⟩ := State.topJava?_eq_some.mp hg0
  have hr' : (({ U with heap := s₂.heap, slotsUsed := s₂.slotsUsed } : State).setVm s₂.vm).frames = .java g₀ :: r := hr
  rcases hq' with ⟨hqc, L, hfe, hL⟩ | ⟨q, rfl, E, ce, L, hx, hce, hcv, hcl, hW₂, hsm, hL⟩
  · obtain ⟨⟨v, rfl⟩, hW₂, e2, q2, q3, q4, q5, q6⟩ := id hfe
    have e3 : s₂ = ({ (U.calling g mk a).setFrames s₂.frames with heap := s₂.heap, slotsUsed := s₂.slotsUsed } : State).setVm s₂.vm := by
      have : s₂ = ({ s₂ with vm := (U.calling g mk a).vm } : State).setVm s₂.vm := rfl
      rw [e2] at this
      exact this
    obtain ⟨c₂, i₂, len₂, hc₂, hd₂, hf₂⟩ := hend
    have hW' : U.WarmedH s₂.vm := hW₂
    have hcc : c₂ = c := by
      have h1 : s₂.code? g.method = U.code? g.method := by
        rw [State.code?_eq, State.code?_eq, hW'.alike.method?]
      exact Option.some.inj (hc₂.symm.trans (h1.trans h.code))
    subst hcc
    have hlen : len₂ = len := by rw [hdg] at hd₂; cases hd₂; rfl
    subst hlen
    have hs₂ : s₂ = (({ U with heap := s₂.heap, slotsUsed := s₂.slotsUsed } : State).setVm s₂.vm).setTop { g with pc := g.pc + len₂, stack := v.toList ++ g.stack } := by
      refine e3.trans ?_
      rw [hf₂, State.calling_eq h.top, State.setFrames_setFrames, State.setTop_of_frames _ hr', hr]
      rfl
    have hsame : U.sameButNew ({ U with heap := s₂.heap, slotsUsed := s₂.slotsUsed } : State) L mc ms := by
      refine ⟨?_, q2, q3, q4, q5, q6⟩
      obtain ⟨t, ht, -⟩ := State.frames_cons hr
      show ({ U with heap := s₂.heap, slotsUsed := s₂.slotsUsed } : State) = { U.setFrames U.frames with heap := s₂.heap, slotsUsed := s₂.slotsUsed }
      rw [State.setFrames_self ht]
    subst hg
    refine Or.inl ⟨v, ⟨(({ U with heap := s₂.heap, slotsUsed := s₂.slotsUsed } : State).setVm s₂.vm), Ls ++ L, c0 + mc, s0 + ms⟩,
      ⟨X.admits, X.cas, X.clock, X.frames, X.room, X.hears, X.method, X.code, (X.here.setHeapUsed s₂.heap s₂.slotsUsed).setVm hW'.alike, X.tail, State.WarmedH.trans X.warmed hW', X.limits, X.bytes, X.same.trans (hsame.setVm s.vm)⟩,
      ⟨g, mk, s₂, L, rfl, rfl, hqc, rfl, hL, rfl, rfl⟩, ?_⟩
    show Steps p.tables e below _ ((({ U with heap := s₂.heap, slotsUsed := s₂.slotsUsed } : State).setVm s₂.vm).setTop { g with pc := g.pc + len₂, stack := v.toList ++ g.stack })
    rw [← hs₂]
    exact hsteps
  · obtain ⟨e2, q2, q3, q4, q5, q6⟩ := id hsm
    have e3 : s₂ = ({ (U.calling g mk a).setFrames s₂.frames with heap := s₂.heap, slotsUsed := s₂.slotsUsed } : State).setVm s₂.vm := by
      have : s₂ = ({ s₂ with vm := (U.calling g mk a).vm } : State).setVm s₂.vm := rfl
      rw [e2] at this
      exact this
    have hf₂ : s₂.frames = .throwing q :: .java g :: U.frames.tail := hend
    have hW' : U.WarmedH s₂.vm := hW₂
    have hs₂ : s₂ = ((({ U with heap := s₂.heap, slotsUsed := s₂.slotsUsed } : State).setVm s₂.vm).setTop g).pushFrame (.throwing q) := by
      refine e3.trans ?_
      rw [hf₂, State.calling_eq h.top, State.setFrames_setFrames, State.pushFrame, State.frames_setTop _ hr', State.setTop_of_frames _ hr', State.setFrames_setFrames, hr]
      rfl
    have hsame : U.sameButNew ({ U with heap := s₂.heap, slotsUsed := s₂.slotsUsed } : State) L mc ms := by
      refine ⟨?_, q2, q3, q4, q5, q6⟩
      obtain ⟨t, ht, -⟩ := State.frames_cons hr
      show ({ U with heap := s₂.heap, slotsUsed := s₂.slotsUsed } : State) = { U.setFrames U.frames with heap := s₂.heap, slotsUsed := s₂.slotsUsed }
      rw [State.setFrames_self ht]
    subst hg
    refine Or.inr ⟨q, ⟨(({ U with heap := s₂.heap, slotsUsed := s₂.slotsUsed } : State).setVm s₂.vm), Ls ++ L, c0 + mc, s0 + ms⟩,
      ⟨X.admits, X.cas, X.clock, X.frames, X.room, X.hears, X.method, X.code, (X.here.setHeapUsed s₂.heap s₂.slotsUsed).setVm hW'.alike, X.tail, State.WarmedH.trans X.warmed hW', X.limits, X.bytes, X.same.trans (hsame.setVm s.vm)⟩,
      ⟨g, mk, s₂, L, E, ce, rfl, rfl, hx, hce, hcv, hcl, rfl, hL, rfl, rfl⟩, ?_⟩
    show Steps p.tables e below _ (((({ U with heap := s₂.heap, slotsUsed := s₂.slotsUsed } : State).setVm s₂.vm).setTop g).pushFrame (.throwing q))
    rw [← hs₂]
    exact hsteps
end
variable {p : Program} {l : Launch} {e : Env} {R : Room} {s : State} {m : MethodId} {args : Array Value} {below : List Frame} {meth : Method} {c : Code} {T : State} {H : Heap} {locs : List Loc} {cells slots : Nat}
theorem vx_callVX (X : Stand p l e R s m args below meth c T locs cells slots) (hexec : p.tables.exec = Jvm.exec) {own C : String} {index : Nat} {y : MethodName} {bytes : ByteArray} {maxL : Nat} {ret : Option FieldType} {hh : List (Nat × Nat × Nat × Nat)}
    (hown : s.vm.findClass own = some m.cls) (hlink : (Cond.methodLink own index y).before args s = true) (hinst : (Cond.instanceMethod y).before args s = true) (hsel : (Cond.selects C y y).before args s = true)
    (hcode : (Cond.codeWith y bytes maxL ret hh).before args s = true) (hy : y.cls ≠ "java/lang/invoke/MethodHandle" ∧ y.cls ≠ "java/lang/invoke/VarHandle")
    {W9 : Nat} {Pre : Pt → Array Value → Prop} {Post : Pt → Array Value → Option Value → Pt → Prop} {PostX : Pt → Array Value → Addr → Pt → Prop} (hK : vx_Back l R p e below s args y 3 W9 Pre Post PostX)
    {b : Addr} {cellB : Cell} (hcell : T.heap[b]? = some cellB) (hobj : cellB.vm.isStatics = false) (hcls : s.vm.findClass C = some cellB.cls)
    {g : JFrame} (hg : g.method = m) (hsize : g.locals.size = c.maxLocals) {argsL rest : List Value} (hlen : ∀ sig, parseMethodDescriptor y.desc = some sig → argsL.length = sig.parameters.length)
    (hstack : g.stack = argsL.reverse ++ .ref b :: rest) (hW : 2 * g.monitorRoom + (rest.map fun v => v.category).sum ≤ W9) (hdg : decode c.code g.pc = .ok (.invokevirtual index, 3))
    (hpre : ∀ vm₁, s.WarmedH vm₁ → Pre ⟨T.setVm vm₁, locs, cells, slots⟩ (Value.ref b :: argsL).toArray) :
    (∃ (v : Option Value) (vm₁ : Vm) (B : Pt), s.WarmedH vm₁ ∧ Stand p l e R s m args below meth c B.U B.locs B.cells B.slots ∧ Post ⟨T.setVm vm₁, locs, cells, slots⟩ (Value.ref b :: argsL).toArray v B ∧
      ∀ target, Steps p.tables e below (B.U.setTop { g with pc := g.pc + 3, stack := v.toList ++ rest }) target → Steps p.tables e below (T.setTop g) target) ∨
    (∃ (q : Addr) (vm₁ : Vm) (B : Pt), s.WarmedH vm₁ ∧ Stand p l e R s m args below meth c B.U B.locs B.cells B.slots ∧ PostX ⟨T.setVm vm₁, locs, cells, slots⟩ (Value.ref b :: argsL).toArray q B ∧
      Steps p.tables e below (T.setTop g) ((B.U.setTop { g with stack := rest }).pushFrame (.throwing q))) := by
  obtain ⟨mk, methM, hnamed, hmethM, hstM, habM⟩ := Cond.instanceMethod_spec hinst
  obtain ⟨m8, methM', cM, hn8, hmethM', -, -, -, -, -, -, hsigM⟩ := Cond.codeWith_spec hcode
  cases Option.some.inj (hn8.symm.trans hnamed)
  cases hmethM.symm.trans hmethM'
  obtain ⟨c2, r2, m2, q1, q2, q3, q4, kP, hkP, hkPi⟩ := Cond.selects_spec hsel
  cases hcls.symm.trans q1
  cases (State.methodFound?_of_named hnamed hy).symm.trans q2
  cases hnamed.symm.trans q3
  have hselP : selectMethod e.platform s.vm cellB.cls mk = .method mk := by rw [Launch.admits_selectMethod X.admits]; exact q4
  obtain ⟨vm₁, X₁, hstep₁⟩ := X.invokevirtual hexec hown hlink hnamed hmethM hstM hkP hkPi hy (a := b) (cell := cellB) hcell
    (fun z h => by rw [h] at hobj; cases hobj) hselP hmethM habM hkP hkPi (g := g) hg (argsL := argsL) (rest := rest) (hlen _ hsigM) hstack hdg
  rcases hK m meth c ⟨T.setVm vm₁, locs, cells, slots⟩ { g with stack := rest } (.invokevirtual index) mk (Value.ref b :: argsL).toArray X₁ hg hsize hdg hW (X₁.named hnamed) (hpre vm₁ X₁.warmed) with ⟨v, B, X', hpost, hsteps⟩ | ⟨q, B, X', hpost, hsteps⟩
  · exact Or.inl ⟨v, vm₁, B, X₁.warmed, X', hpost, fun target h => hstep₁ _ fun acts => by rw [doInvoke_state]; exact hsteps.trans h⟩
  · exact Or.inr ⟨q, vm₁, B, X₁.warmed, X', hpost, hstep₁ _ fun acts => by rw [doInvoke_state]; exact hsteps⟩
theorem vx_callSX (X : Stand p l e R s m args below meth c T locs cells slots) (hexec : p.tables.exec = Jvm.exec) {own : String} {index : Nat} {y : MethodName} {bytes : ByteArray} {maxL : Nat} {ret : Option FieldType} {hh : List (Nat × Nat × Nat × Nat)}
    (hown : s.vm.findClass own = some m.cls) (hlink : (Cond.methodLink own index y).before args s = true) (hstat : (Cond.static y).before args s = true) (hinit : (Cond.initialized y.cls).before args s = true)
    (hcode : (Cond.codeWith y bytes maxL ret hh).before args s = true) (hy : y.cls ≠ "java/lang/invoke/MethodHandle" ∧ y.cls ≠ "java/lang/invoke/VarHandle")
    {W9 : Nat} {Pre : Pt → Array Value → Prop} {Post : Pt → Array Value → Option Value → Pt → Prop} {PostX : Pt → Array Value → Addr → Pt → Prop} (hK : vx_Back l R p e below s args y 3 W9 Pre Post PostX)
    {g : JFrame} (hg : g.method = m) (hsize : g.locals.size = c.maxLocals) {argsL rest : List Value} (hlen : ∀ sig, parseMethodDescriptor y.desc = some sig → argsL.length = sig.parameters.length)
    (hstack : g.stack = argsL.reverse ++ rest) (hW : 2 * g.monitorRoom + (rest.map fun v => v.category).sum ≤ W9) (hdg : decode c.code g.pc = .ok (.invokestatic index, 3))
    (hpre : ∀ vm₁, s.WarmedH vm₁ → Pre ⟨T.setVm vm₁, locs, cells, slots⟩ argsL.toArray) :
    (∃ (v : Option Value) (vm₁ : Vm) (B : Pt), s.WarmedH vm₁ ∧ Stand p l e R s m args below meth c B.U B.locs B.cells B.slots ∧ Post ⟨T.setVm vm₁, locs, cells, slots⟩ argsL.toArray v B ∧
      ∀ target, Steps p.tables e below (B.U.setTop { g with pc := g.pc + 3, stack := v.toList ++ rest }) target → Steps p.tables e below (T.setTop g) target) ∨
    (∃ (q : Addr) (vm₁ : Vm) (B : Pt), s.WarmedH vm₁ ∧ Stand p l e R s m args below meth c B.U B.locs B.cells B.slots ∧ PostX ⟨T.setVm vm₁, locs, cells, slots⟩ argsL.toArray q B ∧
      Steps p.tables e below (T.setTop g) ((B.U.setTop { g with stack := rest }).pushFrame (.throwing q))) := by
  obtain ⟨mk, methM, cM, hnamed, hmethM, -, -, -, -, -, -, hsigM⟩ := Cond.codeWith_spec hcode
  have hstatic : methM.isStatic = true := Cond.static_spec hnamed hmethM hstat
  obtain ⟨kP, hkP, -⟩ := className_of_methodNamed hnamed
  have hinitP : kP.init = .initialized := Cond.initialized_spec (findClass_of_methodNamed hnamed) hkP hinit
  obtain ⟨vm₁, X₁, hstep₁⟩ := X.invokestatic hexec hown hlink hnamed hmethM hstatic hkP hinitP hy (g := g) hg (argsL := argsL) (rest := rest) (hlen _ hsigM) hstack hdg
  rcases hK m meth c ⟨T.setVm vm₁, locs, cells, slots⟩ { g with stack := rest } (.invokestatic index) mk argsL.toArray X₁ hg hsize hdg hW (X₁.named hnamed) (hpre vm₁ X₁.warmed) with ⟨v, B, X', hpost, hsteps⟩ | ⟨q, B, X', hpost, hsteps⟩
  · exact Or.inl ⟨v, vm₁, B, X₁.warmed, X', hpost, fun target h => hstep₁ _ fun acts => by rw [doInvoke_state]; exact hsteps.trans h⟩
  · exact Or.inr ⟨q, vm₁, B, X₁.warmed, X', hpost, hstep₁ _ fun acts => by rw [doInvoke_state]; exact hsteps⟩
theorem vx_callVW (X : Stand p l e R s m args below meth c T locs cells slots) (hexec : p.tables.exec = Jvm.exec) {own C : String} {index : Nat} {y : MethodName} {bytes : ByteArray} {maxL : Nat} {ret : Option FieldType} {hh : List (Nat × Nat × Nat × Nat)}
    (hown : s.vm.findClass own = some m.cls) (hlink : (Cond.methodLink own index y).before args s = true) (hinst : (Cond.instanceMethod y).before args s = true) (hsel : (Cond.selects C y y).before args s = true)
    (hcode : (Cond.codeWith y bytes maxL ret hh).before args s = true) (hy : y.cls ≠ "java/lang/invoke/MethodHandle" ∧ y.cls ≠ "java/lang/invoke/VarHandle")
    {W9 : Nat} {Pre : Pt → Array Value → Prop} {Post : Pt → Array Value → Option Value → Pt → Prop} (hK : Back l R p e below s args y 3 W9 Pre Post)
    {b : Addr} {cellB : Cell} (hcell : T.heap[b]? = some cellB) (hobj : cellB.vm.isStatics = false) (hcls : s.vm.findClass C = some cellB.cls)
    {g : JFrame} (hg : g.method = m) (hsize : g.locals.size = c.maxLocals) {argsL rest : List Value} (hlen : ∀ sig, parseMethodDescriptor y.desc = some sig → argsL.length = sig.parameters.length)
    (hstack : g.stack = argsL.reverse ++ .ref b :: rest) (hW : 2 * g.monitorRoom + (rest.map fun v => v.category).sum ≤ W9) (hdg : decode c.code g.pc = .ok (.invokevirtual index, 3))
    (hpre : ∀ vm₁, s.WarmedH vm₁ → Pre ⟨T.setVm vm₁, locs, cells, slots⟩ (Value.ref b :: argsL).toArray) :
    ∃ (v : Option Value) (vm₁ : Vm) (B : Pt), s.WarmedH vm₁ ∧ Stand p l e R s m args below meth c B.U B.locs B.cells B.slots ∧ Post ⟨T.setVm vm₁, locs, cells, slots⟩ (Value.ref b :: argsL).toArray v B ∧
      ∀ target, Steps p.tables e below (B.U.setTop { g with pc := g.pc + 3, stack := v.toList ++ rest }) target → Steps p.tables e below (T.setTop g) target := by
  obtain ⟨mk, methM, hnamed, hmethM, hstM, habM⟩ := Cond.instanceMethod_spec hinst
  obtain ⟨m8, methM', cM, hn8, hmethM', -, -, -, -, -, -, hsigM⟩ := Cond.codeWith_spec hcode
  cases Option.some.inj (hn8.symm.trans hnamed)
  cases hmethM.symm.trans hmethM'
  obtain ⟨c2, r2, m2, q1, q2, q3, q4, kP, hkP, hkPi⟩ := Cond.selects_spec hsel
  cases hcls.symm.trans q1
  cases (State.methodFound?_of_named hnamed hy).symm.trans q2
  cases hnamed.symm.trans q3
  have hselP : selectMethod e.platform s.vm cellB.cls mk = .method mk := by rw [Launch.admits_selectMethod X.admits]; exact q4
  obtain ⟨vm₁, X₁, hstep₁⟩ := X.invokevirtual hexec hown hlink hnamed hmethM hstM hkP hkPi hy (a := b) (cell := cellB) hcell
    (fun z h => by rw [h] at hobj; cases hobj) hselP hmethM habM hkP hkPi (g := g) hg (argsL := argsL) (rest := rest) (hlen _ hsigM) hstack hdg
  obtain ⟨v, B, X', hpost, hsteps⟩ := hK m meth c ⟨T.setVm vm₁, locs, cells, slots⟩ { g with stack := rest } (.invokevirtual index) mk (Value.ref b :: argsL).toArray X₁ hg hsize hdg hW (X₁.named hnamed) (hpre vm₁ X₁.warmed)
  exact ⟨v, vm₁, B, X₁.warmed, X', hpost, fun target h => hstep₁ _ fun acts => by rw [doInvoke_state]; exact hsteps.trans h⟩
abbrev vx_CVW (R : Room) (s : State) (args : Array Value) (own C : String) (index : Nat) (y : MethodName) (bytes : ByteArray) (maxL : Nat) (ret : Option FieldType) (hh : List (Nat × Nat × Nat × Nat)) (ws : List Cond) (rm : Room) (mc ms n : Nat) : Prop :=
  (rm.cells = mc ∧ rm.slots = ms ∧ rm.frames + 1 ≤ R.frames ∧ 8 + (maxL + 11) + rm.locals ≤ R.locals ∧ (∀ w ∈ ws, ∀ (a' : Array Value) (U : State), s.WarmedH U.vm → w.before a' U = true) ∧ Cond.codeWith y bytes maxL ret hh ∈ ws) ∧
  (Cond.codeWith y bytes maxL ret hh).before args s = true ∧ (Cond.initialized y.cls).before args s = true ∧ (y.cls ≠ "java/lang/invoke/MethodHandle" ∧ y.cls ≠ "java/lang/invoke/VarHandle") ∧
  (∀ sig, parseMethodDescriptor y.desc = some sig → n = sig.parameters.length) ∧ (Cond.methodLink own index y).before args s = true ∧ (Cond.instanceMethod y).before args s = true ∧ (Cond.selects C y y).before args s = true
theorem vx_cwVW {own C : String} {index maxL mc ms : Nat} {y : MethodName} {bytes : ByteArray} {ret : Option FieldType} {hh : List (Nat × Nat × Nat × Nat)} {Ts ws ws' : List Cond} {rm : Room} (n : Nat) (ht : ∀ w ∈ Ts, w.before args s = true) (hT : GoodIn Ts (wsV own index C y ws)) (hw : ws = Cond.codeWith y bytes maxL ret hh :: ws') (hrc : rm.cells = mc) (hrs : rm.slots = ms)
    (hd : y.cls = C ∧ y.cls ≠ "java/lang/invoke/MethodHandle" ∧ y.cls ≠ "java/lang/invoke/VarHandle" ∧ (parseMethodDescriptor y.desc).map (fun d => d.parameters.length) = some n) (hR : rm.frames + 1 ≤ R.frames ∧ 8 + (maxL + 11) + rm.locals ≤ R.locals) :
    vx_CVW R s args own C index y bytes maxL ret hh ws rm mc ms n := by
  obtain ⟨hC, hd⟩ := hd
  subst hC
  have ok : ∀ w ∈ wsV own index y.cls y ws, w.before args s = true := fun w h => ht w (hT w h).1
  have hG : GoodIn Ts ws := fun w h => hT w (by unfold wsV; exact List.mem_append_right _ h)
  have hc : Cond.codeWith y bytes maxL ret hh ∈ ws := by rw [hw]; exact List.mem_cons_self
  refine ⟨⟨hrc, hrs, hR.1, hR.2, pay_in ht hG, hc⟩, ht _ (hG _ hc).1, ok _ (by simp [wsV]), ⟨hd.1, hd.2.1⟩, fun sig h => ?_, ok _ (by simp [wsV]), ok _ (by simp [wsV]), ok _ (by simp [wsV])⟩
  have h2 := hd.2.2
  rw [h] at h2
  exact (Option.some.inj h2).symm
theorem vx_runVW {y : MethodName} {bytes cc : ByteArray} {maxL nL mc ms n index : Nat} {ret : Option FieldType} {hh : List (Nat × Nat × Nat × Nat)} {ws : List Cond} {rm : Room} {Pc : Array Value → State → Prop} {Qc : Array Value → State → Outcome → State → Prop} {free : Addr → Prop} {Ts : List Cond} {own C : String} {b : Addr} {As rest : List Value} {g : JFrame}
    (S : CallFix p m c cc nL s args Ts own) (hM : Met l y ws rm Pc Qc mc ms free) (cw : vx_CVW R s args own C index y bytes maxL ret hh ws rm mc ms n) (hp : PreV s H C b Pc As)
    (hg : g.method = m) (hn : As.length = n) (hsize : g.locals.size = nL) (hstack : g.stack = As.reverse ++ .ref b :: rest) (hW : 2 * g.monitorRoom + (rest.map fun v => v.category).sum ≤ 8) (hdg : decode cc g.pc = .ok (.invokevirtual index, 3)) (hf : cells + mc ≤ R.cells ∧ slots + ms ≤ R.slots) :
    va_Run p l e R s m args below meth c H locs cells slots mc ms g rest (Qc (Value.ref b :: As).toArray) free := by
  obtain ⟨⟨hrc, hrs, hfr, hlo, hws, hcw⟩, hcode, hini, hy, hlen, hl, hin, hse⟩ := cw
  have hK : Back l R p e below s args y 3 8 (PreOf R mc ms Pc) (PostOf Qc mc ms free) := va_backW (hh := hh) (bytes := bytes) (maxL := maxL) (ret := ret) hM hp.1 hrc hrs hfr hlo hws hcw (fun a' U hW => word_at hW (Or.inl (by first | rfl | simp [Cond.onTables, Cond.keeps, Cond.steady])) hini)
  obtain ⟨hx, hb, hml, ho, -⟩ := S
  obtain ⟨-, ⟨cellB, hcB, hoB, hclB⟩, hPc⟩ := hp
  intro T hT X
  obtain ⟨v, vm₁, ⟨U', l2, c2, s2⟩, hW₁, X', ⟨g', mk, t, L, e1, e2, hq, h1, hL, h2, h3⟩, st⟩ := vx_callVW X hx (C := C) (hh := hh) (bytes := bytes) (maxL := maxL) (ret := ret) ho hl hin hse hcode hy hK (by rw [hT]; exact hcB) hoB hclB hg (hsize.trans hml.symm) (argsL := As) (rest := rest) (fun sig h => hn.trans (hlen sig h)) hstack hW (by rw [hb]; exact hdg)
    (fun vm₁ hW₁ => ⟨hf.1, hf.2, hPc (T.setVm vm₁) hT hW₁⟩)
  dsimp only [Pt.U, Pt.locs, Pt.cells, Pt.slots] at X' e1 e2 h1 h2 h3 st
  subst h1; subst h2; subst h3
  exact ⟨v, (T.setVm vm₁).calling g' mk (Value.ref b :: As).toArray, t, U', L, hT, X', hL, e1, e2, hq, st⟩
section
variable {y : MethodName} {bytes cc : ByteArray} {maxL nL mc ms n index : Nat} {ret : Option FieldType} {ws : List Cond} {rm : Room} {Pc : Array Value → State → Prop} {Qc : Array Value → State → Outcome → State → Prop} {XC : String → State → State → Prop} {free : Addr → Prop} {Ts : List Cond} {own C : String} {b : Addr} {As rest : List Value} {g : JFrame}
theorem vx_runVX {hh : List (Nat × Nat × Nat × Nat)} (S : CallFix p m c cc nL s args Ts own) (hM : vx_Met l y ws rm Pc Qc XC mc ms free) (cw : vx_CVW R s args own C index y bytes maxL ret hh ws rm mc ms n) (hp : PreV s H C b Pc As)
    (hg : g.method = m) (hn : As.length = n) (hsize : g.locals.size = nL) (hstack : g.stack = As.reverse ++ .ref b :: rest) (hW : 2 * g.monitorRoom + (rest.map fun v => v.category).sum ≤ 8) (hdg : decode cc g.pc = .ok (.invokevirtual index, 3)) (hf : cells + mc ≤ R.cells ∧ slots + ms ≤ R.slots) :
    vx_Run p l e R s m args below meth c H locs cells slots mc ms g rest (Qc (Value.ref b :: As).toArray) XC free := by
  obtain ⟨⟨hrc, hrs, hfr, hlo, hws, hcw⟩, hcode, hini, hy, hlen, hl, hin, hse⟩ := cw
  have hK : vx_Back l R p e below s args y 3 8 (PreOf R mc ms Pc) (PostOf Qc mc ms free) (vx_Post XC mc ms free) := vx_backW (hh := hh) (bytes := bytes) (maxL := maxL) (ret := ret) hM hp.1 hrc hrs hfr hlo hws hcw (fun a' U hW => word_at hW (Or.inl (by first | rfl | simp [Cond.onTables, Cond.keeps, Cond.steady])) hini)
  obtain ⟨hx, hb, hml, ho, -⟩ := S
  obtain ⟨-, ⟨cellB, hcB, hoB, hclB⟩, hPc⟩ := hp
  intro T hT X
  rcases vx_callVX X hx (C := C) (hh := hh) (bytes := bytes) (maxL := maxL) (ret := ret) ho hl hin hse hcode hy hK (by rw [hT]; exact hcB) hoB hclB hg (hsize.trans hml.symm) (argsL := As) (rest := rest) (fun sig h => hn.trans (hlen sig h)) hstack hW (by rw [hb]; exact hdg)
    (fun vm₁ hW₁ => ⟨hf.1, hf.2, hPc (T.setVm vm₁) hT hW₁⟩) with ⟨v, vm₁, ⟨U', l2, c2, s2⟩, hW₁, X', ⟨g', mk, t, L, e1, e2, hq, h1, hL, h2, h3⟩, st⟩ | ⟨q, vm₁, ⟨U', l2, c2, s2⟩, hW₁, X', ⟨g', mk, t, L, E, ce, e1, e2, hq, hce, hcv, hcl, h1, hL, h2, h3⟩, st⟩
  · dsimp only [Pt.U, Pt.locs, Pt.cells, Pt.slots] at X' e1 e2 h1 h2 h3 st
    subst h1; subst h2; subst h3
    exact Or.inl ⟨v, (T.setVm vm₁).calling g' mk (Value.ref b :: As).toArray, t, U', L, hT, X', hL, e1, e2, hq, st⟩
  · dsimp only [Pt.U, Pt.locs, Pt.cells, Pt.slots] at X' e1 e2 h1 h2 h3 st hcl
    subst h1; subst h2; subst h3
    exact Or.inr ⟨q, (T.setVm vm₁).calling g' mk (Value.ref b :: As).toArray, t, U', L, E, ce, hT, X', hL, e1, e2, hq, hce, hcv, vx_cls hW₁ hcl, st⟩
theorem vx_runSX {hh : List (Nat × Nat × Nat × Nat)} (S : CallFix p m c cc nL s args Ts own) (hM : vx_Met l y ws rm Pc Qc XC mc ms free) (cw : vx_CSW R s args own index y bytes maxL ret hh ws rm mc ms n) (hp : PreS s H Pc As)
    (hg : g.method = m) (hn : As.length = n) (hsize : g.locals.size = nL) (hstack : g.stack = As.reverse ++ rest) (hW : 2 * g.monitorRoom + (rest.map fun v => v.category).sum ≤ 8) (hdg : decode cc g.pc = .ok (.invokestatic index, 3)) (hf : cells + mc ≤ R.cells ∧ slots + ms ≤ R.slots) :
    vx_Run p l e R s m args below meth c H locs cells slots mc ms g rest (Qc As.toArray) XC free := by
  obtain ⟨⟨hrc, hrs, hfr, hlo, hws, hcw⟩, hcode, hini, hy, hlen, hl, hstt⟩ := cw
  have hK : vx_Back l R p e below s args y 3 8 (PreOf R mc ms Pc) (PostOf Qc mc ms free) (vx_Post XC mc ms free) := vx_backW (hh := hh) (bytes := bytes) (maxL := maxL) (ret := ret) hM hp.1 hrc hrs hfr hlo hws hcw (fun a' U hW => word_at hW (Or.inl (by first | rfl | simp [Cond.onTables, Cond.keeps, Cond.steady])) hini)
  obtain ⟨hx, hb, hml, ho, -⟩ := S
  intro T hT X
  rcases vx_callSX X hx (hh := hh) (bytes := bytes) (maxL := maxL) (ret := ret) ho hl hstt hini hcode hy hK hg (hsize.trans hml.symm) (argsL := As) (rest := rest) (fun sig h => hn.trans (hlen sig h)) hstack hW (by rw [hb]; exact hdg)
    (fun vm₁ hW₁ => ⟨hf.1, hf.2, hp.2 (T.setVm vm₁) hT hW₁⟩) with ⟨v, vm₁, ⟨U', l2, c2, s2⟩, hW₁, X', ⟨g', mk, t, L, e1, e2, hq, h1, hL, h2, h3⟩, st⟩ | ⟨q, vm₁, ⟨U', l2, c2, s2⟩, hW₁, X', ⟨g', mk, t, L, E, ce, e1, e2, hq, hce, hcv, hcl, h1, hL, h2, h3⟩, st⟩
  · dsimp only [Pt.U, Pt.locs, Pt.cells, Pt.slots] at X' e1 e2 h1 h2 h3 st
    subst h1; subst h2; subst h3
    exact Or.inl ⟨v, (T.setVm vm₁).calling g' mk As.toArray, t, U', L, hT, X', hL, e1, e2, hq, st⟩
  · dsimp only [Pt.U, Pt.locs, Pt.cells, Pt.slots] at X' e1 e2 h1 h2 h3 st hcl
    subst h1; subst h2; subst h3
    exact Or.inr ⟨q, (T.setVm vm₁).calling g' mk As.toArray, t, U', L, E, ce, hT, X', hL, e1, e2, hq, hce, hcv, vx_cls hW₁ hcl, st⟩
end
end VXH
theorem vx_ofWH {l : Launch} {y : MethodName} {ws ws' : List Cond} {rm : Room} {Pc : Array Value → State → Prop} {Qc : Array Value → State → Outcome → State → Prop} {XC : String → State → State → Prop} {mc ms : Nat} {free : Addr → Prop} {cc : ByteArray} {maxL : Nat} {ret : Option FieldType} {hh : List (Nat × Nat × Nat × Nat)}
    (hy : plainName y.cls = true) (hw : ws = Cond.codeWith y cc maxL ret hh :: ws')
    (body : ∀ p e s m args below meth c s₁, BodyLoose p l y (headSpec ws rm) cc maxL ret e s m args below meth c s₁ → c.maxLocals = maxL → Pc args s →
      W p l e (headSpec ws rm).room s m args below meth c s.heap [] 0 0 (vx_MQ below Qc XC args s mc ms free) (entryFrame m args maxL)) : vx_Met l y ws rm Pc Qc XC mc ms free := by
  refine MetFree.of_bodyS (code := cc) (maxLocals := maxL) (ret := ret) hy ?_ ?_
  · intro args s m h hn
    obtain ⟨m9, meth, c, hn9, h1, h2, h3, h4, -, h5, h6, -⟩ := Cond.codeWith_spec (atoms_spec (ws := ws) h _ (by rw [hw]; exact List.mem_cons_self))
    cases hn.symm.trans hn9
    exact ⟨meth, c, h1, h2, h3, h4, h5, h6⟩
  · intro p e s m args below meth c s₁ B hml hP _
    have hh0 : s₁.heap = s.heap := by rw [B.state]; rfl
    obtain ⟨t, a1, o, b1, b2, b3⟩ := body p e s m args below meth c s₁ B hml hP s₁ hh0 (Stand.of_body B)
    exact ⟨t, o, a1, b1, b2, b3⟩
/-! ===== END ===== -/

def RX0 : String := "HumpYard$Cut"
def TX0 : u_T := fun k => match k with
  | 0 => ("HumpYard$Cut", "number", "I", true)
  | 1 => ("HumpYard$Cut", "length", "D", true)
  | 2 => ("HumpYard$Cut", "mass", "D", true)
  | 3 => ("HumpYard$Cut", "resistance", "D", true)
  | 4 => ("HumpYard$Cut", "wishedNode", "I", true)
  | 5 => ("HumpYard$Cut", "state", "I", false)
  | 6 => ("HumpYard$Cut", "place", "D", false)
  | 7 => ("HumpYard$Cut", "speed", "D", false)
  | 8 => ("HumpYard$Cut", "node", "I", false)
  | _ => ("HumpYard$Cut", "caughtBy", "I", false)
def tyX0 : Nat → FieldType := fun k => match k with
  | 0 => .int
  | 1 => .double
  | 2 => .double
  | 3 => .double
  | 4 => .int
  | 5 => .int
  | 6 => .double
  | 7 => .double
  | 8 => .int
  | _ => .int
abbrev wsX00 : List Cond := u_ws RX0 TX0 10
theorem nmX0 : ∀ a, a < 10 → ∀ b, b < 10 → a ≠ b → (TX0 a).2.1 ≠ (TX0 b).2.1 := by decide +kernel
theorem tyX0_ok : ∀ k, k < 10 → parseFieldDescriptor (TX0 k).2.2.1 = some (tyX0 k) := by decide +kernel
abbrev cX0_init : ByteArray := prog_2_method_1_code
def yX0_init : MethodName := ⟨RX0, "<init>", "(IIIDI)V"⟩
abbrev cX0_rear : ByteArray := prog_2_method_2_code
def yX0_rear : MethodName := ⟨RX0, "rear", "()D"⟩
abbrev cX0_isBoundFor : ByteArray := prog_2_method_3_code
def yX0_isBoundFor : MethodName := ⟨RX0, "isBoundFor", "(I)Z"⟩
abbrev cX0_wishedSide : ByteArray := prog_2_method_4_code
def yX0_wishedSide : MethodName := ⟨RX0, "wishedSide", "(I)I"⟩
def RX1 : String := "HumpYard$EventLog"
def TX1 : u_T := fun k => match k with
  | 0 => ("HumpYard$EventLog", "rows", "[I", true)
  | _ => ("HumpYard$EventLog", "count", "I", false)
def tyX1 : Nat → FieldType := fun k => match k with
  | 0 => .array .int
  | _ => .int
abbrev wsX10 : List Cond := u_ws RX1 TX1 2
theorem nmX1 : ∀ a, a < 2 → ∀ b, b < 2 → a ≠ b → (TX1 a).2.1 ≠ (TX1 b).2.1 := by decide +kernel
theorem tyX1_ok : ∀ k, k < 2 → parseFieldDescriptor (TX1 k).2.2.1 = some (tyX1 k) := by decide +kernel
abbrev cX1_init : ByteArray := prog_3_method_1_code
def yX1_init : MethodName := ⟨RX1, "<init>", "()V"⟩
abbrev cX1_note : ByteArray := prog_3_method_2_code
def yX1_note : MethodName := ⟨RX1, "note", "(IIII)V"⟩
abbrev cX1_keeps : ByteArray := prog_3_method_3_code
def yX1_keeps : MethodName := ⟨RX1, "keeps", "(I)Z"⟩
abbrev cX1_number : ByteArray := prog_3_method_4_code
def yX1_number : MethodName := ⟨RX1, "number", "(II)I"⟩
def RX2 : String := "HumpYard"
def TX2 : u_T := fun k => match k with
  | 0 => ("HumpYard", "cuts", "Ljava/util/ArrayList;", true)
  | 1 => ("HumpYard", "rolling", "Ljava/util/ArrayList;", true)
  | 2 => ("HumpYard", "events", "LHumpYard$EventLog;", true)
  | 3 => ("HumpYard", "sides", "[I", true)
  | 4 => ("HumpYard", "turning", "[I", true)
  | 5 => ("HumpYard", "stuckPoints", "[Z", true)
  | 6 => ("HumpYard", "wishes", "[D", true)
  | 7 => ("HumpYard", "free", "[D", true)
  | 8 => ("HumpYard", "ended", "[I", true)
  | 9 => ("HumpYard", "sidings", "[I", true)
  | 10 => ("HumpYard", "pushSpeed", "D", false)
  | 11 => ("HumpYard", "topSpeed", "D", false)
  | 12 => ("HumpYard", "started", "I", false)
  | 13 => ("HumpYard", "landed", "I", false)
  | 14 => ("HumpYard", "standing", "I", false)
  | _ => ("HumpYard", "ticks", "I", false)
def tyX2 : Nat → FieldType := fun k => match k with
  | 0 => .object "java/util/ArrayList"
  | 1 => .object "java/util/ArrayList"
  | 2 => .object "HumpYard$EventLog"
  | 3 => .array .int
  | 4 => .array .int
  | 5 => .array .boolean
  | 6 => .array .double
  | 7 => .array .double
  | 8 => .array .int
  | 9 => .array .int
  | 10 => .double
  | 11 => .double
  | 12 => .int
  | 13 => .int
  | 14 => .int
  | _ => .int
abbrev wsX20 : List Cond := u_ws RX2 TX2 16
theorem nmX2 : ∀ a, a < 16 → ∀ b, b < 16 → a ≠ b → (TX2 a).2.1 ≠ (TX2 b).2.1 := by decide +kernel
theorem tyX2_ok : ∀ k, k < 16 → parseFieldDescriptor (TX2 k).2.2.1 = some (tyX2 k) := by decide +kernel
abbrev cX2_init : ByteArray := prog_1_method_1_code
def yX2_init : MethodName := ⟨RX2, "<init>", "()V"⟩
abbrev cX2_cut : ByteArray := prog_1_method_2_code
def yX2_cut : MethodName := ⟨RX2, "cut", "(IIDI)I"⟩
abbrev cX2_push : ByteArray := prog_1_method_3_code
def yX2_push : MethodName := ⟨RX2, "push", "(D)D"⟩
abbrev cX2_wish : ByteArray := prog_1_method_4_code
def yX2_wish : MethodName := ⟨RX2, "wish", "(ID)D"⟩
abbrev cX2_stick : ByteArray := prog_1_method_5_code
def yX2_stick : MethodName := ⟨RX2, "stick", "(IZ)Z"⟩
abbrev cX2_fill : ByteArray := prog_1_method_6_code
def yX2_fill : MethodName := ⟨RX2, "fill", "(ID)D"⟩
abbrev cX2_tick : ByteArray := prog_1_method_7_code
def yX2_tick : MethodName := ⟨RX2, "tick", "(I)I"⟩
abbrev cX2_place : ByteArray := prog_1_method_8_code
def yX2_place : MethodName := ⟨RX2, "place", "(I)D"⟩
abbrev cX2_speed : ByteArray := prog_1_method_9_code
def yX2_speed : MethodName := ⟨RX2, "speed", "(I)D"⟩
abbrev cX2_told : ByteArray := prog_1_method_10_code
def yX2_told : MethodName := ⟨RX2, "told", "(II)I"⟩
abbrev cX2_point : ByteArray := prog_1_method_11_code
def yX2_point : MethodName := ⟨RX2, "point", "(II)I"⟩
abbrev cX2_siding : ByteArray := prog_1_method_12_code
def yX2_siding : MethodName := ⟨RX2, "siding", "(II)I"⟩
abbrev cX2_event : ByteArray := prog_1_method_13_code
def yX2_event : MethodName := ⟨RX2, "event", "(II)I"⟩
abbrev cX2_about : ByteArray := prog_1_method_14_code
def yX2_about : MethodName := ⟨RX2, "about", "(I)I"⟩
abbrev cX2_fastest : ByteArray := prog_1_method_15_code
def yX2_fastest : MethodName := ⟨RX2, "fastest", "()D"⟩
abbrev cX2_cutOf : ByteArray := prog_1_method_16_code
def yX2_cutOf : MethodName := ⟨RX2, "cutOf", "(I)LHumpYard$Cut;"⟩
abbrev cX2_isWithin : ByteArray := prog_1_method_17_code
def yX2_isWithin : MethodName := ⟨RX2, "isWithin", "(DI)Z"⟩
abbrev cX2_isTrack : ByteArray := prog_1_method_18_code
def yX2_isTrack : MethodName := ⟨RX2, "isTrack", "(I)Z"⟩
abbrev cX2_isPoint : ByteArray := prog_1_method_19_code
def yX2_isPoint : MethodName := ⟨RX2, "isPoint", "(I)Z"⟩
abbrev cX2_nodeBehind : ByteArray := prog_1_method_20_code
def yX2_nodeBehind : MethodName := ⟨RX2, "nodeBehind", "(II)I"⟩
abbrev cX2_trackOf : ByteArray := prog_1_method_21_code
def yX2_trackOf : MethodName := ⟨RX2, "trackOf", "(I)I"⟩
abbrev cX2_levelOf : ByteArray := prog_1_method_22_code
def yX2_levelOf : MethodName := ⟨RX2, "levelOf", "(I)I"⟩
abbrev cX2_pointPlace : ByteArray := prog_1_method_23_code
def yX2_pointPlace : MethodName := ⟨RX2, "pointPlace", "(I)I"⟩
abbrev cX2_leadsTo : ByteArray := prog_1_method_24_code
def yX2_leadsTo : MethodName := ⟨RX2, "leadsTo", "(II)Z"⟩
abbrev cX2_isOneWay : ByteArray := prog_1_method_25_code
def yX2_isOneWay : MethodName := ⟨RX2, "isOneWay", "(II)Z"⟩
abbrev cX2_goOnTurning : ByteArray := prog_1_method_26_code
def yX2_goOnTurning : MethodName := ⟨RX2, "goOnTurning", "()V"⟩
abbrev cX2_beginTurning : ByteArray := prog_1_method_27_code
def yX2_beginTurning : MethodName := ⟨RX2, "beginTurning", "()V"⟩
abbrev cX2_isBusy : ByteArray := prog_1_method_28_code
def yX2_isBusy : MethodName := ⟨RX2, "isBusy", "(I)Z"⟩
abbrev cX2_firstBoundFor : ByteArray := prog_1_method_29_code
def yX2_firstBoundFor : MethodName := ⟨RX2, "firstBoundFor", "(I)LHumpYard$Cut;"⟩
abbrev cX2_rollAll : ByteArray := prog_1_method_30_code
def yX2_rollAll : MethodName := ⟨RX2, "rollAll", "()V"⟩
abbrev cX2_acceleration : ByteArray := prog_1_method_31_code
def yX2_acceleration : MethodName := ⟨RX2, "acceleration", "(LHumpYard$Cut;)D"⟩
abbrev cX2_grade : ByteArray := prog_1_method_32_code
def yX2_grade : MethodName := ⟨RX2, "grade", "(D)D"⟩
abbrev cX2_brakeSteps : ByteArray := prog_1_method_33_code
def yX2_brakeSteps : MethodName := ⟨RX2, "brakeSteps", "(LHumpYard$Cut;II)I"⟩
abbrev cX2_passPoints : ByteArray := prog_1_method_34_code
def yX2_passPoints : MethodName := ⟨RX2, "passPoints", "(LHumpYard$Cut;D)V"⟩
abbrev cX2_pass : ByteArray := prog_1_method_35_code
def yX2_pass : MethodName := ⟨RX2, "pass", "(LHumpYard$Cut;I)V"⟩
abbrev cX2_catchAll : ByteArray := prog_1_method_36_code
def yX2_catchAll : MethodName := ⟨RX2, "catchAll", "()V"⟩
abbrev cX2_aheadOf : ByteArray := prog_1_method_37_code
def yX2_aheadOf : MethodName := ⟨RX2, "aheadOf", "(ILHumpYard$Cut;)LHumpYard$Cut;"⟩
abbrev cX2_catchUp : ByteArray := prog_1_method_38_code
def yX2_catchUp : MethodName := ⟨RX2, "catchUp", "(LHumpYard$Cut;LHumpYard$Cut;)V"⟩
abbrev cX2_endAll : ByteArray := prog_1_method_39_code
def yX2_endAll : MethodName := ⟨RX2, "endAll", "()V"⟩
abbrev cX2_endOnTrack : ByteArray := prog_1_method_40_code
def yX2_endOnTrack : MethodName := ⟨RX2, "endOnTrack", "(LHumpYard$Cut;I)V"⟩
abbrev cX2_land : ByteArray := prog_1_method_41_code
def yX2_land : MethodName := ⟨RX2, "land", "(LHumpYard$Cut;I)V"⟩
abbrev cX2_stand : ByteArray := prog_1_method_42_code
def yX2_stand : MethodName := ⟨RX2, "stand", "(LHumpYard$Cut;I)V"⟩
abbrev cX2_enterSiding : ByteArray := prog_1_method_43_code
def yX2_enterSiding : MethodName := ⟨RX2, "enterSiding", "(LHumpYard$Cut;I)V"⟩
abbrev cX2_pushNext : ByteArray := prog_1_method_44_code
def yX2_pushNext : MethodName := ⟨RX2, "pushNext", "()V"⟩
abbrev cX2_isCrestClear : ByteArray := prog_1_method_45_code
def yX2_isCrestClear : MethodName := ⟨RX2, "isCrestClear", "()Z"⟩
def RX3 : String := "HumpYardModel"
def TX3 : u_T := fun k => match k with
  | 0 => ("HumpYardModel", "code", "I", false)
  | 1 => ("HumpYardModel", "cuts", "I", false)
  | 2 => ("HumpYardModel", "state", "[I", true)
  | 3 => ("HumpYardModel", "wagons", "[I", true)
  | 4 => ("HumpYardModel", "tons", "[I", true)
  | 5 => ("HumpYardModel", "resistance", "[D", true)
  | 6 => ("HumpYardModel", "wished", "[I", true)
  | 7 => ("HumpYardModel", "place", "[D", true)
  | 8 => ("HumpYardModel", "speed", "[D", true)
  | 9 => ("HumpYardModel", "passed", "[I", true)
  | 10 => ("HumpYardModel", "sides", "[I", true)
  | 11 => ("HumpYardModel", "caught", "[I", true)
  | 12 => ("HumpYardModel", "push", "D", false)
  | 13 => ("HumpYardModel", "wishes", "[D", true)
  | 14 => ("HumpYardModel", "free", "[D", true)
  | 15 => ("HumpYardModel", "lies", "[I", true)
  | 16 => ("HumpYardModel", "turns", "[I", true)
  | 17 => ("HumpYardModel", "stuck", "[Z", true)
  | 18 => ("HumpYardModel", "sidings", "[I", true)
  | 19 => ("HumpYardModel", "sided", "[I", true)
  | 20 => ("HumpYardModel", "events", "[I", true)
  | 21 => ("HumpYardModel", "eventCount", "I", false)
  | 22 => ("HumpYardModel", "ticks", "I", false)
  | _ => ("HumpYardModel", "fastest", "D", false)
def tyX3 : Nat → FieldType := fun k => match k with
  | 0 => .int
  | 1 => .int
  | 2 => .array .int
  | 3 => .array .int
  | 4 => .array .int
  | 5 => .array .double
  | 6 => .array .int
  | 7 => .array .double
  | 8 => .array .double
  | 9 => .array .int
  | 10 => .array .int
  | 11 => .array .int
  | 12 => .double
  | 13 => .array .double
  | 14 => .array .double
  | 15 => .array .int
  | 16 => .array .int
  | 17 => .array .boolean
  | 18 => .array .int
  | 19 => .array .int
  | 20 => .array .int
  | 21 => .int
  | 22 => .int
  | _ => .double
abbrev wsX30 : List Cond := u_ws RX3 TX3 24
theorem nmX3 : ∀ a, a < 24 → ∀ b, b < 24 → a ≠ b → (TX3 a).2.1 ≠ (TX3 b).2.1 := by decide +kernel
theorem tyX3_ok : ∀ k, k < 24 → parseFieldDescriptor (TX3 k).2.2.1 = some (tyX3 k) := by decide +kernel
abbrev cX3_init : ByteArray := prog_5_method_1_code
def yX3_init : MethodName := ⟨RX3, "<init>", "()V"⟩
abbrev cX3_thrown : ByteArray := prog_5_method_2_code
def yX3_thrown : MethodName := ⟨RX3, "thrown", "()I"⟩
abbrev cX3_refuses : ByteArray := prog_5_method_3_code
def yX3_refuses : MethodName := ⟨RX3, "refuses", "(I)Z"⟩
abbrev cX3_isIn : ByteArray := prog_5_method_4_code
def yX3_isIn : MethodName := ⟨RX3, "isIn", "(DDD)Z"⟩
abbrev cX3_cut : ByteArray := prog_5_method_5_code
def yX3_cut : MethodName := ⟨RX3, "cut", "(IIDI)I"⟩
abbrev cX3_push : ByteArray := prog_5_method_6_code
def yX3_push : MethodName := ⟨RX3, "push", "(D)D"⟩
abbrev cX3_wish : ByteArray := prog_5_method_7_code
def yX3_wish : MethodName := ⟨RX3, "wish", "(ID)D"⟩
abbrev cX3_stick : ByteArray := prog_5_method_8_code
def yX3_stick : MethodName := ⟨RX3, "stick", "(IZ)Z"⟩
abbrev cX3_fill : ByteArray := prog_5_method_9_code
def yX3_fill : MethodName := ⟨RX3, "fill", "(ID)D"⟩
abbrev cX3_level : ByteArray := prog_5_method_10_code
def yX3_level : MethodName := ⟨RX3, "level", "(I)I"⟩
abbrev cX3_placeOf : ByteArray := prog_5_method_11_code
def yX3_placeOf : MethodName := ⟨RX3, "placeOf", "(I)D"⟩
abbrev cX3_wayTo : ByteArray := prog_5_method_12_code
def yX3_wayTo : MethodName := ⟨RX3, "wayTo", "(I)I"⟩
abbrev cX3_goesBy : ByteArray := prog_5_method_13_code
def yX3_goesBy : MethodName := ⟨RX3, "goesBy", "(II)Z"⟩
abbrev cX3_rear : ByteArray := prog_5_method_14_code
def yX3_rear : MethodName := ⟨RX3, "rear", "(I)D"⟩
abbrev cX3_isBusy : ByteArray := prog_5_method_15_code
def yX3_isBusy : MethodName := ⟨RX3, "isBusy", "(I)Z"⟩
abbrev cX3_leads : ByteArray := prog_5_method_16_code
def yX3_leads : MethodName := ⟨RX3, "leads", "(II)Z"⟩
abbrev cX3_bound : ByteArray := prog_5_method_17_code
def yX3_bound : MethodName := ⟨RX3, "bound", "(I)I"⟩
abbrev cX3_notes : ByteArray := prog_5_method_18_code
def yX3_notes : MethodName := ⟨RX3, "notes", "(III)V"⟩
abbrev cX3_points : ByteArray := prog_5_method_19_code
def yX3_points : MethodName := ⟨RX3, "points", "()V"⟩
abbrev cX3_brakes : ByteArray := prog_5_method_20_code
def yX3_brakes : MethodName := ⟨RX3, "brakes", "(II)D"⟩
abbrev cX3_rolls : ByteArray := prog_5_method_21_code
def yX3_rolls : MethodName := ⟨RX3, "rolls", "(I)V"⟩
abbrev cX3_ahead : ByteArray := prog_5_method_22_code
def yX3_ahead : MethodName := ⟨RX3, "ahead", "(I)I"⟩
abbrev cX3_catches : ByteArray := prog_5_method_23_code
def yX3_catches : MethodName := ⟨RX3, "catches", "(I)V"⟩
abbrev cX3_ends : ByteArray := prog_5_method_24_code
def yX3_ends : MethodName := ⟨RX3, "ends", "(I)V"⟩
abbrev cX3_pushes : ByteArray := prog_5_method_25_code
def yX3_pushes : MethodName := ⟨RX3, "pushes", "()V"⟩
abbrev cX3_tick : ByteArray := prog_5_method_26_code
def yX3_tick : MethodName := ⟨RX3, "tick", "(I)I"⟩
abbrev cX3_isCut : ByteArray := prog_5_method_27_code
def yX3_isCut : MethodName := ⟨RX3, "isCut", "(I)Z"⟩
abbrev cX3_place : ByteArray := prog_5_method_28_code
def yX3_place : MethodName := ⟨RX3, "place", "(I)D"⟩
abbrev cX3_speed : ByteArray := prog_5_method_29_code
def yX3_speed : MethodName := ⟨RX3, "speed", "(I)D"⟩
abbrev cX3_told : ByteArray := prog_5_method_30_code
def yX3_told : MethodName := ⟨RX3, "told", "(II)I"⟩
abbrev cX3_point : ByteArray := prog_5_method_31_code
def yX3_point : MethodName := ⟨RX3, "point", "(II)I"⟩
abbrev cX3_siding : ByteArray := prog_5_method_32_code
def yX3_siding : MethodName := ⟨RX3, "siding", "(II)I"⟩
abbrev cX3_event : ByteArray := prog_5_method_33_code
def yX3_event : MethodName := ⟨RX3, "event", "(II)I"⟩
abbrev cX3_about : ByteArray := prog_5_method_34_code
def yX3_about : MethodName := ⟨RX3, "about", "(I)I"⟩
abbrev cX3_fastest : ByteArray := prog_5_method_35_code
def yX3_fastest : MethodName := ⟨RX3, "fastest", "()D"⟩
def RJx145de : String := "java/io/Serializable"
def TJx145de : u_T := fun k => match k with
  | _ => ("", "", "", false)
def tyJx145de : Nat → FieldType := fun k => match k with
  | _ => .int
abbrev wsJx145de0 : List Cond := u_ws RJx145de TJx145de 0
theorem nmJx145de : ∀ a, a < 0 → ∀ b, b < 0 → a ≠ b → (TJx145de a).2.1 ≠ (TJx145de b).2.1 := by decide +kernel
theorem tyJx145de_ok : ∀ k, k < 0 → parseFieldDescriptor (TJx145de k).2.2.1 = some (tyJx145de k) := by decide +kernel
def RJx8e188 : String := "java/lang/Cloneable"
def TJx8e188 : u_T := fun k => match k with
  | _ => ("", "", "", false)
def tyJx8e188 : Nat → FieldType := fun k => match k with
  | _ => .int
abbrev wsJx8e1880 : List Cond := u_ws RJx8e188 TJx8e188 0
theorem nmJx8e188 : ∀ a, a < 0 → ∀ b, b < 0 → a ≠ b → (TJx8e188 a).2.1 ≠ (TJx8e188 b).2.1 := by decide +kernel
theorem tyJx8e188_ok : ∀ k, k < 0 → parseFieldDescriptor (TJx8e188 k).2.2.1 = some (tyJx8e188 k) := by decide +kernel
def RJxab1ab : String := "java/lang/Iterable"
def TJxab1ab : u_T := fun k => match k with
  | _ => ("", "", "", false)
def tyJxab1ab : Nat → FieldType := fun k => match k with
  | _ => .int
abbrev wsJxab1ab0 : List Cond := u_ws RJxab1ab TJxab1ab 0
theorem nmJxab1ab : ∀ a, a < 0 → ∀ b, b < 0 → a ≠ b → (TJxab1ab a).2.1 ≠ (TJxab1ab b).2.1 := by decide +kernel
theorem tyJxab1ab_ok : ∀ k, k < 0 → parseFieldDescriptor (TJxab1ab k).2.2.1 = some (tyJxab1ab k) := by decide +kernel
def RJ9 : String := "java/lang/Math"
def TJ9 : u_T := fun k => match k with
  | _ => ("", "", "", false)
def tyJ9 : Nat → FieldType := fun k => match k with
  | _ => .int
abbrev wsJ90 : List Cond := u_ws RJ9 TJ9 0
theorem nmJ9 : ∀ a, a < 0 → ∀ b, b < 0 → a ≠ b → (TJ9 a).2.1 ≠ (TJ9 b).2.1 := by decide +kernel
theorem tyJ9_ok : ∀ k, k < 0 → parseFieldDescriptor (TJ9 k).2.2.1 = some (tyJ9 k) := by decide +kernel
abbrev cJ9_floorMod_7cf53 : ByteArray := prog_12_method_50_code
def yJ9_floorMod_7cf53 : MethodName := ⟨RJ9, "floorMod", "(II)I"⟩
abbrev cJ9_max_7cf53 : ByteArray := prog_12_method_65_code
def yJ9_max_7cf53 : MethodName := ⟨RJ9, "max", "(II)I"⟩
abbrev cJ9_min_7cf53 : ByteArray := prog_12_method_69_code
def yJ9_min_7cf53 : MethodName := ⟨RJ9, "min", "(II)I"⟩
def RJ0 : String := "java/lang/String"
def TJ0 : u_T := fun k => match k with
  | _ => ("", "", "", false)
def tyJ0 : Nat → FieldType := fun k => match k with
  | _ => .int
abbrev wsJ00 : List Cond := u_ws RJ0 TJ0 0
theorem nmJ0 : ∀ a, a < 0 → ∀ b, b < 0 → a ≠ b → (TJ0 a).2.1 ≠ (TJ0 b).2.1 := by decide +kernel
theorem tyJ0_ok : ∀ k, k < 0 → parseFieldDescriptor (TJ0 k).2.2.1 = some (tyJ0 k) := by decide +kernel
def RJ10 : String := "java/lang/System"
def TJ10 : u_T := fun k => match k with
  | _ => ("", "", "", false)
def tyJ10 : Nat → FieldType := fun k => match k with
  | _ => .int
abbrev wsJ100 : List Cond := u_ws RJ10 TJ10 0
theorem nmJ10 : ∀ a, a < 0 → ∀ b, b < 0 → a ≠ b → (TJ10 a).2.1 ≠ (TJ10 b).2.1 := by decide +kernel
theorem tyJ10_ok : ∀ k, k < 0 → parseFieldDescriptor (TJ10 k).2.2.1 = some (tyJ10 k) := by decide +kernel
def RJxa1e45 : String := "java/util/AbstractCollection"
def TJxa1e45 : u_T := fun k => match k with
  | _ => ("", "", "", false)
def tyJxa1e45 : Nat → FieldType := fun k => match k with
  | _ => .int
abbrev wsJxa1e450 : List Cond := u_ws RJxa1e45 TJxa1e45 0
theorem nmJxa1e45 : ∀ a, a < 0 → ∀ b, b < 0 → a ≠ b → (TJxa1e45 a).2.1 ≠ (TJxa1e45 b).2.1 := by decide +kernel
theorem tyJxa1e45_ok : ∀ k, k < 0 → parseFieldDescriptor (TJxa1e45 k).2.2.1 = some (tyJxa1e45 k) := by decide +kernel
abbrev cJxa1e45_init_da8c8 : ByteArray := prog_18_method_1_code
def yJxa1e45_init_da8c8 : MethodName := ⟨RJxa1e45, "<init>", "()V"⟩
def RJxc12de : String := "java/util/AbstractList"
def TJxc12de : u_T := fun k => match k with
  | _ => ("", "", "", false)
def tyJxc12de : Nat → FieldType := fun k => match k with
  | _ => .int
abbrev wsJxc12de0 : List Cond := u_ws RJxc12de TJxc12de 0
theorem nmJxc12de : ∀ a, a < 0 → ∀ b, b < 0 → a ≠ b → (TJxc12de a).2.1 ≠ (TJxc12de b).2.1 := by decide +kernel
theorem tyJxc12de_ok : ∀ k, k < 0 → parseFieldDescriptor (TJxc12de k).2.2.1 = some (tyJxc12de k) := by decide +kernel
abbrev cJxc12de_init_da8c8 : ByteArray := prog_19_method_1_code
def yJxc12de_init_da8c8 : MethodName := ⟨RJxc12de, "<init>", "()V"⟩
def RJx4a65c : String := "java/util/ArrayList"
def TJx4a65c : u_T := fun k => match k with
  | 0 => ("java/util/AbstractList", "modCount", "I", false)
  | 1 => ("java/util/ArrayList", "elementData", "[Ljava/lang/Object;", false)
  | _ => ("java/util/ArrayList", "size", "I", false)
def tyJx4a65c : Nat → FieldType := fun k => match k with
  | 0 => .int
  | 1 => .array (.object "java/lang/Object")
  | _ => .int
abbrev wsJx4a65c0 : List Cond := u_ws RJx4a65c TJx4a65c 3
theorem nmJx4a65c : ∀ a, a < 3 → ∀ b, b < 3 → a ≠ b → (TJx4a65c a).2.1 ≠ (TJx4a65c b).2.1 := by decide +kernel
theorem tyJx4a65c_ok : ∀ k, k < 3 → parseFieldDescriptor (TJx4a65c k).2.2.1 = some (tyJx4a65c k) := by decide +kernel
abbrev cJx4a65c_init_da8c8 : ByteArray := prog_20_method_2_code
def yJx4a65c_init_da8c8 : MethodName := ⟨RJx4a65c, "<init>", "()V"⟩
abbrev cJx4a65c_grow_92f84 : ByteArray := prog_20_method_6_code
def yJx4a65c_grow_92f84 : MethodName := ⟨RJx4a65c, "grow", "(I)[Ljava/lang/Object;"⟩
abbrev cJx4a65c_grow_d5877 : ByteArray := prog_20_method_7_code
def yJx4a65c_grow_d5877 : MethodName := ⟨RJx4a65c, "grow", "()[Ljava/lang/Object;"⟩
abbrev cJx4a65c_size_8abf5 : ByteArray := prog_20_method_8_code
def yJx4a65c_size_8abf5 : MethodName := ⟨RJx4a65c, "size", "()I"⟩
abbrev cJx4a65c_elementData_915e3 : ByteArray := prog_20_method_18_code
def yJx4a65c_elementData_915e3 : MethodName := ⟨RJx4a65c, "elementData", "(I)Ljava/lang/Object;"⟩
abbrev cJx4a65c_get_915e3 : ByteArray := prog_20_method_20_code
def yJx4a65c_get_915e3 : MethodName := ⟨RJx4a65c, "get", "(I)Ljava/lang/Object;"⟩
abbrev cJx4a65c_add_72be8 : ByteArray := prog_20_method_24_code
def yJx4a65c_add_72be8 : MethodName := ⟨RJx4a65c, "add", "(Ljava/lang/Object;[Ljava/lang/Object;I)V"⟩
abbrev cJx4a65c_add_9ea2d : ByteArray := prog_20_method_25_code
def yJx4a65c_add_9ea2d : MethodName := ⟨RJx4a65c, "add", "(Ljava/lang/Object;)Z"⟩
abbrev cJx4a65c_remove_915e3 : ByteArray := prog_20_method_29_code
def yJx4a65c_remove_915e3 : MethodName := ⟨RJx4a65c, "remove", "(I)Ljava/lang/Object;"⟩
abbrev cJx4a65c_fastRemove_b59b0 : ByteArray := prog_20_method_39_code
def yJx4a65c_fastRemove_b59b0 : MethodName := ⟨RJx4a65c, "fastRemove", "([Ljava/lang/Object;I)V"⟩
def RJ7 : String := "java/util/Arrays"
def TJ7 : u_T := fun k => match k with
  | _ => ("", "", "", false)
def tyJ7 : Nat → FieldType := fun k => match k with
  | _ => .int
abbrev wsJ70 : List Cond := u_ws RJ7 TJ7 0
theorem nmJ7 : ∀ a, a < 0 → ∀ b, b < 0 → a ≠ b → (TJ7 a).2.1 ≠ (TJ7 b).2.1 := by decide +kernel
theorem tyJ7_ok : ∀ k, k < 0 → parseFieldDescriptor (TJ7 k).2.2.1 = some (tyJ7 k) := by decide +kernel
abbrev cJ7_fill_7f8df : ByteArray := prog_21_method_113_code
def yJ7_fill_7f8df : MethodName := ⟨RJ7, "fill", "([DD)V"⟩
abbrev cJ7_copyOf_1904c : ByteArray := prog_21_method_119_code
def yJ7_copyOf_1904c : MethodName := ⟨RJ7, "copyOf", "([Ljava/lang/Object;I)[Ljava/lang/Object;"⟩
abbrev cJ7_copyOf_6403c : ByteArray := prog_21_method_120_code
def yJ7_copyOf_6403c : MethodName := ⟨RJ7, "copyOf", "([Ljava/lang/Object;ILjava/lang/Class;)[Ljava/lang/Object;"⟩
def RJx5ef63 : String := "java/util/Collection"
def TJx5ef63 : u_T := fun k => match k with
  | _ => ("", "", "", false)
def tyJx5ef63 : Nat → FieldType := fun k => match k with
  | _ => .int
abbrev wsJx5ef630 : List Cond := u_ws RJx5ef63 TJx5ef63 0
theorem nmJx5ef63 : ∀ a, a < 0 → ∀ b, b < 0 → a ≠ b → (TJx5ef63 a).2.1 ≠ (TJx5ef63 b).2.1 := by decide +kernel
theorem tyJx5ef63_ok : ∀ k, k < 0 → parseFieldDescriptor (TJx5ef63 k).2.2.1 = some (tyJx5ef63 k) := by decide +kernel
def RJxbd725 : String := "java/util/List"
def TJxbd725 : u_T := fun k => match k with
  | _ => ("", "", "", false)
def tyJxbd725 : Nat → FieldType := fun k => match k with
  | _ => .int
abbrev wsJxbd7250 : List Cond := u_ws RJxbd725 TJxbd725 0
theorem nmJxbd725 : ∀ a, a < 0 → ∀ b, b < 0 → a ≠ b → (TJxbd725 a).2.1 ≠ (TJxbd725 b).2.1 := by decide +kernel
theorem tyJxbd725_ok : ∀ k, k < 0 → parseFieldDescriptor (TJxbd725 k).2.2.1 = some (tyJxbd725 k) := by decide +kernel
def RJ15 : String := "java/util/Objects"
def TJ15 : u_T := fun k => match k with
  | _ => ("", "", "", false)
def tyJ15 : Nat → FieldType := fun k => match k with
  | _ => .int
abbrev wsJ150 : List Cond := u_ws RJ15 TJ15 0
theorem nmJ15 : ∀ a, a < 0 → ∀ b, b < 0 → a ≠ b → (TJ15 a).2.1 ≠ (TJ15 b).2.1 := by decide +kernel
theorem tyJ15_ok : ∀ k, k < 0 → parseFieldDescriptor (TJ15 k).2.2.1 = some (tyJ15 k) := by decide +kernel
abbrev cJ15_checkIndex_7cf53 : ByteArray := prog_24_method_17_code
def yJ15_checkIndex_7cf53 : MethodName := ⟨RJ15, "checkIndex", "(II)I"⟩
def RJxf0a74 : String := "java/util/RandomAccess"
def TJxf0a74 : u_T := fun k => match k with
  | _ => ("", "", "", false)
def tyJxf0a74 : Nat → FieldType := fun k => match k with
  | _ => .int
abbrev wsJxf0a740 : List Cond := u_ws RJxf0a74 TJxf0a74 0
theorem nmJxf0a74 : ∀ a, a < 0 → ∀ b, b < 0 → a ≠ b → (TJxf0a74 a).2.1 ≠ (TJxf0a74 b).2.1 := by decide +kernel
theorem tyJxf0a74_ok : ∀ k, k < 0 → parseFieldDescriptor (TJxf0a74 k).2.2.1 = some (tyJxf0a74 k) := by decide +kernel
def RJxa66e6 : String := "java/util/SequencedCollection"
def TJxa66e6 : u_T := fun k => match k with
  | _ => ("", "", "", false)
def tyJxa66e6 : Nat → FieldType := fun k => match k with
  | _ => .int
abbrev wsJxa66e60 : List Cond := u_ws RJxa66e6 TJxa66e6 0
theorem nmJxa66e6 : ∀ a, a < 0 → ∀ b, b < 0 → a ≠ b → (TJxa66e6 a).2.1 ≠ (TJxa66e6 b).2.1 := by decide +kernel
theorem tyJxa66e6_ok : ∀ k, k < 0 → parseFieldDescriptor (TJxa66e6 k).2.2.1 = some (tyJxa66e6 k) := by decide +kernel
def RJ8 : String := "jdk/internal/util/ArraysSupport"
def TJ8 : u_T := fun k => match k with
  | _ => ("", "", "", false)
def tyJ8 : Nat → FieldType := fun k => match k with
  | _ => .int
abbrev wsJ80 : List Cond := u_ws RJ8 TJ8 0
theorem nmJ8 : ∀ a, a < 0 → ∀ b, b < 0 → a ≠ b → (TJ8 a).2.1 ≠ (TJ8 b).2.1 := by decide +kernel
theorem tyJ8_ok : ∀ k, k < 0 → parseFieldDescriptor (TJ8 k).2.2.1 = some (tyJ8 k) := by decide +kernel
abbrev cJ8_newLength_cabcc : ByteArray := prog_27_method_27_code
def yJ8_newLength_cabcc : MethodName := ⟨RJ8, "newLength", "(III)I"⟩
abbrev cJ8_hugeLength_7cf53 : ByteArray := prog_27_method_28_code
def yJ8_hugeLength_7cf53 : MethodName := ⟨RJ8, "hugeLength", "(II)I"⟩
def RJ3 : String := "jdk/internal/util/Preconditions"
def TJ3 : u_T := fun k => match k with
  | _ => ("", "", "", false)
def tyJ3 : Nat → FieldType := fun k => match k with
  | _ => .int
abbrev wsJ30 : List Cond := u_ws RJ3 TJ3 0
theorem nmJ3 : ∀ a, a < 0 → ∀ b, b < 0 → a ≠ b → (TJ3 a).2.1 ≠ (TJ3 b).2.1 := by decide +kernel
theorem tyJ3_ok : ∀ k, k < 0 → parseFieldDescriptor (TJ3 k).2.2.1 = some (tyJ3 k) := by decide +kernel
abbrev cJ3_checkIndex_8e157 : ByteArray := prog_28_method_11_code
def yJ3_checkIndex_8e157 : MethodName := ⟨RJ3, "checkIndex", "(IILjava/util/function/BiFunction;)I"⟩
def RL : String := "HumpYardLaw"
abbrev cL_cut : ByteArray := method_3_code
def yL_cut : MethodName := ⟨RL, "cut", "(LHumpYard;IIDI[J)I"⟩
abbrev cL_push : ByteArray := method_4_code
def yL_push : MethodName := ⟨RL, "push", "(LHumpYard;D[D)I"⟩
abbrev cL_wish : ByteArray := method_5_code
def yL_wish : MethodName := ⟨RL, "wish", "(LHumpYard;ID[D)I"⟩
abbrev cL_stick : ByteArray := method_6_code
def yL_stick : MethodName := ⟨RL, "stick", "(LHumpYard;IZ[J)I"⟩
abbrev cL_fill : ByteArray := method_7_code
def yL_fill : MethodName := ⟨RL, "fill", "(LHumpYard;ID[D)I"⟩
abbrev cL_tick : ByteArray := method_8_code
def yL_tick : MethodName := ⟨RL, "tick", "(LHumpYard;I[J)I"⟩
abbrev cL_place : ByteArray := method_9_code
def yL_place : MethodName := ⟨RL, "place", "(LHumpYard;I[D)I"⟩
abbrev cL_speed : ByteArray := method_10_code
def yL_speed : MethodName := ⟨RL, "speed", "(LHumpYard;I[D)I"⟩
abbrev cL_told : ByteArray := method_11_code
def yL_told : MethodName := ⟨RL, "told", "(LHumpYard;II[J)I"⟩
abbrev cL_point : ByteArray := method_12_code
def yL_point : MethodName := ⟨RL, "point", "(LHumpYard;II[J)I"⟩
abbrev cL_siding : ByteArray := method_13_code
def yL_siding : MethodName := ⟨RL, "siding", "(LHumpYard;II[J)I"⟩
abbrev cL_event : ByteArray := method_14_code
def yL_event : MethodName := ⟨RL, "event", "(LHumpYard;II[J)I"⟩
abbrev cL_about : ByteArray := method_15_code
def yL_about : MethodName := ⟨RL, "about", "(LHumpYard;I[J)I"⟩
abbrev cL_law : ByteArray := code
def yL_law : MethodName := ⟨RL, "law", "([I)Z"⟩
end
section
theorem dX3_init_0 : decode cX3_init 0 = .ok (.aload_n 0, 1) := by decide +kernel
theorem dX3_init_1 : decode cX3_init 1 = .ok (.invokespecial 1, 3) := by decide +kernel
theorem dX3_init_4 : decode cX3_init 4 = .ok (.aload_n 0, 1) := by decide +kernel
theorem dX3_init_5 : decode cX3_init 5 = .ok (.bipush 60, 2) := by decide +kernel
theorem dX3_init_7 : decode cX3_init 7 = .ok (.newarray .int, 2) := by decide +kernel
theorem dX3_init_9 : decode cX3_init 9 = .ok (.putfield 7, 3) := by decide +kernel
theorem dX3_init_12 : decode cX3_init 12 = .ok (.aload_n 0, 1) := by decide +kernel
theorem dX3_init_13 : decode cX3_init 13 = .ok (.bipush 60, 2) := by decide +kernel
theorem dX3_init_15 : decode cX3_init 15 = .ok (.newarray .int, 2) := by decide +kernel
theorem dX3_init_17 : decode cX3_init 17 = .ok (.putfield 13, 3) := by decide +kernel
theorem dX3_init_20 : decode cX3_init 20 = .ok (.aload_n 0, 1) := by decide +kernel
theorem dX3_init_21 : decode cX3_init 21 = .ok (.bipush 60, 2) := by decide +kernel
theorem dX3_init_23 : decode cX3_init 23 = .ok (.newarray .int, 2) := by decide +kernel
theorem dX3_init_25 : decode cX3_init 25 = .ok (.putfield 16, 3) := by decide +kernel
theorem dX3_init_28 : decode cX3_init 28 = .ok (.aload_n 0, 1) := by decide +kernel
theorem dX3_init_29 : decode cX3_init 29 = .ok (.bipush 60, 2) := by decide +kernel
theorem dX3_init_31 : decode cX3_init 31 = .ok (.newarray .double, 2) := by decide +kernel
theorem dX3_init_33 : decode cX3_init 33 = .ok (.putfield 19, 3) := by decide +kernel
theorem dX3_init_36 : decode cX3_init 36 = .ok (.aload_n 0, 1) := by decide +kernel
theorem dX3_init_37 : decode cX3_init 37 = .ok (.bipush 60, 2) := by decide +kernel
theorem dX3_init_39 : decode cX3_init 39 = .ok (.newarray .int, 2) := by decide +kernel
theorem dX3_init_41 : decode cX3_init 41 = .ok (.putfield 23, 3) := by decide +kernel
theorem dX3_init_44 : decode cX3_init 44 = .ok (.aload_n 0, 1) := by decide +kernel
theorem dX3_init_45 : decode cX3_init 45 = .ok (.bipush 60, 2) := by decide +kernel
theorem dX3_init_47 : decode cX3_init 47 = .ok (.newarray .double, 2) := by decide +kernel
theorem dX3_init_49 : decode cX3_init 49 = .ok (.putfield 26, 3) := by decide +kernel
theorem dX3_init_52 : decode cX3_init 52 = .ok (.aload_n 0, 1) := by decide +kernel
theorem dX3_init_53 : decode cX3_init 53 = .ok (.bipush 60, 2) := by decide +kernel
theorem dX3_init_55 : decode cX3_init 55 = .ok (.newarray .double, 2) := by decide +kernel
theorem dX3_init_57 : decode cX3_init 57 = .ok (.putfield 29, 3) := by decide +kernel
theorem dX3_init_60 : decode cX3_init 60 = .ok (.aload_n 0, 1) := by decide +kernel
theorem dX3_init_61 : decode cX3_init 61 = .ok (.bipush 60, 2) := by decide +kernel
theorem dX3_init_63 : decode cX3_init 63 = .ok (.newarray .int, 2) := by decide +kernel
theorem dX3_init_65 : decode cX3_init 65 = .ok (.putfield 32, 3) := by decide +kernel
theorem dX3_init_68 : decode cX3_init 68 = .ok (.aload_n 0, 1) := by decide +kernel
theorem dX3_init_69 : decode cX3_init 69 = .ok (.bipush 60, 2) := by decide +kernel
theorem dX3_init_71 : decode cX3_init 71 = .ok (.newarray .int, 2) := by decide +kernel
theorem dX3_init_73 : decode cX3_init 73 = .ok (.putfield 35, 3) := by decide +kernel
theorem dX3_init_76 : decode cX3_init 76 = .ok (.aload_n 0, 1) := by decide +kernel
theorem dX3_init_77 : decode cX3_init 77 = .ok (.bipush 60, 2) := by decide +kernel
theorem dX3_init_79 : decode cX3_init 79 = .ok (.newarray .int, 2) := by decide +kernel
theorem dX3_init_81 : decode cX3_init 81 = .ok (.putfield 38, 3) := by decide +kernel
theorem dX3_init_84 : decode cX3_init 84 = .ok (.aload_n 0, 1) := by decide +kernel
theorem dX3_init_85 : decode cX3_init 85 = .ok (.bipush 9, 2) := by decide +kernel
theorem dX3_init_87 : decode cX3_init 87 = .ok (.newarray .double, 2) := by decide +kernel
theorem dX3_init_89 : decode cX3_init 89 = .ok (.putfield 41, 3) := by decide +kernel
theorem dX3_init_92 : decode cX3_init 92 = .ok (.aload_n 0, 1) := by decide +kernel
theorem dX3_init_93 : decode cX3_init 93 = .ok (.bipush 8, 2) := by decide +kernel
theorem dX3_init_95 : decode cX3_init 95 = .ok (.newarray .double, 2) := by decide +kernel
theorem dX3_init_97 : decode cX3_init 97 = .ok (.putfield 44, 3) := by decide +kernel
theorem dX3_init_100 : decode cX3_init 100 = .ok (.aload_n 0, 1) := by decide +kernel
theorem dX3_init_101 : decode cX3_init 101 = .ok (.bipush 7, 2) := by decide +kernel
theorem dX3_init_103 : decode cX3_init 103 = .ok (.newarray .int, 2) := by decide +kernel
theorem dX3_init_105 : decode cX3_init 105 = .ok (.putfield 47, 3) := by decide +kernel
theorem dX3_init_108 : decode cX3_init 108 = .ok (.aload_n 0, 1) := by decide +kernel
theorem dX3_init_109 : decode cX3_init 109 = .ok (.bipush 7, 2) := by decide +kernel
theorem dX3_init_111 : decode cX3_init 111 = .ok (.newarray .int, 2) := by decide +kernel
theorem dX3_init_113 : decode cX3_init 113 = .ok (.putfield 50, 3) := by decide +kernel
theorem dX3_init_116 : decode cX3_init 116 = .ok (.aload_n 0, 1) := by decide +kernel
theorem dX3_init_117 : decode cX3_init 117 = .ok (.bipush 7, 2) := by decide +kernel
theorem dX3_init_119 : decode cX3_init 119 = .ok (.newarray .boolean, 2) := by decide +kernel
theorem dX3_init_121 : decode cX3_init 121 = .ok (.putfield 53, 3) := by decide +kernel
theorem dX3_init_124 : decode cX3_init 124 = .ok (.aload_n 0, 1) := by decide +kernel
theorem dX3_init_125 : decode cX3_init 125 = .ok (.sipush 480, 3) := by decide +kernel
theorem dX3_init_128 : decode cX3_init 128 = .ok (.newarray .int, 2) := by decide +kernel
theorem dX3_init_130 : decode cX3_init 130 = .ok (.putfield 57, 3) := by decide +kernel
theorem dX3_init_133 : decode cX3_init 133 = .ok (.aload_n 0, 1) := by decide +kernel
theorem dX3_init_134 : decode cX3_init 134 = .ok (.bipush 8, 2) := by decide +kernel
theorem dX3_init_136 : decode cX3_init 136 = .ok (.newarray .int, 2) := by decide +kernel
theorem dX3_init_138 : decode cX3_init 138 = .ok (.putfield 60, 3) := by decide +kernel
theorem dX3_init_141 : decode cX3_init 141 = .ok (.aload_n 0, 1) := by decide +kernel
theorem dX3_init_142 : decode cX3_init 142 = .ok (.sipush 800, 3) := by decide +kernel
theorem dX3_init_145 : decode cX3_init 145 = .ok (.newarray .int, 2) := by decide +kernel
theorem dX3_init_147 : decode cX3_init 147 = .ok (.putfield 63, 3) := by decide +kernel
theorem dX3_init_150 : decode cX3_init 150 = .ok (.iconst 0, 1) := by decide +kernel
theorem dX3_init_151 : decode cX3_init 151 = .ok (.istore_n 1, 1) := by decide +kernel
theorem dX3_init_152 : decode cX3_init 152 = .ok (.iload_n 1, 1) := by decide +kernel
theorem dX3_init_153 : decode cX3_init 153 = .ok (.bipush 9, 2) := by decide +kernel
theorem dX3_init_155 : decode cX3_init 155 = .ok (.if_icmp .ge 18, 3) := by decide +kernel
theorem dX3_init_158 : decode cX3_init 158 = .ok (.aload_n 0, 1) := by decide +kernel
theorem dX3_init_159 : decode cX3_init 159 = .ok (.getfield 41, 3) := by decide +kernel
theorem dX3_init_162 : decode cX3_init 162 = .ok (.iload_n 1, 1) := by decide +kernel
theorem dX3_init_163 : decode cX3_init 163 = .ok (.ldc2_w 66, 3) := by decide +kernel
theorem dX3_init_166 : decode cX3_init 166 = .ok (.dastore, 1) := by decide +kernel
theorem dX3_init_167 : decode cX3_init 167 = .ok (.iinc 1 1, 3) := by decide +kernel
theorem dX3_init_170 : decode cX3_init 170 = .ok (.goto (-18), 3) := by decide +kernel
theorem dX3_init_173 : decode cX3_init 173 = .ok (.iconst 0, 1) := by decide +kernel
theorem dX3_init_174 : decode cX3_init 174 = .ok (.istore_n 1, 1) := by decide +kernel
theorem dX3_init_175 : decode cX3_init 175 = .ok (.iload_n 1, 1) := by decide +kernel
theorem dX3_init_176 : decode cX3_init 176 = .ok (.bipush 8, 2) := by decide +kernel
theorem dX3_init_178 : decode cX3_init 178 = .ok (.if_icmp .ge 18, 3) := by decide +kernel
theorem dX3_init_181 : decode cX3_init 181 = .ok (.aload_n 0, 1) := by decide +kernel
theorem dX3_init_182 : decode cX3_init 182 = .ok (.getfield 44, 3) := by decide +kernel
theorem dX3_init_185 : decode cX3_init 185 = .ok (.iload_n 1, 1) := by decide +kernel
theorem dX3_init_186 : decode cX3_init 186 = .ok (.ldc2_w 68, 3) := by decide +kernel
theorem dX3_init_189 : decode cX3_init 189 = .ok (.dastore, 1) := by decide +kernel
theorem dX3_init_190 : decode cX3_init 190 = .ok (.iinc 1 1, 3) := by decide +kernel
theorem dX3_init_193 : decode cX3_init 193 = .ok (.goto (-18), 3) := by decide +kernel
theorem dX3_init_196 : decode cX3_init 196 = .ok (.return_, 1) := by decide +kernel
theorem dX3_thrown_0 : decode cX3_thrown 0 = .ok (.aload_n 0, 1) := by decide +kernel
theorem dX3_thrown_1 : decode cX3_thrown 1 = .ok (.getfield 70, 3) := by decide +kernel
theorem dX3_thrown_4 : decode cX3_thrown 4 = .ok (.ireturn, 1) := by decide +kernel
theorem dX3_refuses_0 : decode cX3_refuses 0 = .ok (.aload_n 0, 1) := by decide +kernel
theorem dX3_refuses_1 : decode cX3_refuses 1 = .ok (.iload_n 1, 1) := by decide +kernel
theorem dX3_refuses_2 : decode cX3_refuses 2 = .ok (.putfield 70, 3) := by decide +kernel
theorem dX3_refuses_5 : decode cX3_refuses 5 = .ok (.iload_n 1, 1) := by decide +kernel
theorem dX3_refuses_6 : decode cX3_refuses 6 = .ok (.ifCond .le 7, 3) := by decide +kernel
theorem dX3_refuses_9 : decode cX3_refuses 9 = .ok (.iconst 1, 1) := by decide +kernel
theorem dX3_refuses_10 : decode cX3_refuses 10 = .ok (.goto 4, 3) := by decide +kernel
theorem dX3_refuses_13 : decode cX3_refuses 13 = .ok (.iconst 0, 1) := by decide +kernel
theorem dX3_refuses_14 : decode cX3_refuses 14 = .ok (.ireturn, 1) := by decide +kernel
theorem dX3_isIn_0 : decode cX3_isIn 0 = .ok (.dload_n 0, 1) := by decide +kernel
theorem dX3_isIn_1 : decode cX3_isIn 1 = .ok (.dload_n 2, 1) := by decide +kernel
theorem dX3_isIn_2 : decode cX3_isIn 2 = .ok (.dcmp .l, 1) := by decide +kernel
theorem dX3_isIn_3 : decode cX3_isIn 3 = .ok (.ifCond .lt 14, 3) := by decide +kernel
theorem dX3_isIn_6 : decode cX3_isIn 6 = .ok (.dload_n 0, 1) := by decide +kernel
theorem dX3_isIn_7 : decode cX3_isIn 7 = .ok (.dload 4, 2) := by decide +kernel
theorem dX3_isIn_9 : decode cX3_isIn 9 = .ok (.dcmp .g, 1) := by decide +kernel
theorem dX3_isIn_10 : decode cX3_isIn 10 = .ok (.ifCond .gt 7, 3) := by decide +kernel
theorem dX3_isIn_13 : decode cX3_isIn 13 = .ok (.iconst 1, 1) := by decide +kernel
theorem dX3_isIn_14 : decode cX3_isIn 14 = .ok (.goto 4, 3) := by decide +kernel
theorem dX3_isIn_17 : decode cX3_isIn 17 = .ok (.iconst 0, 1) := by decide +kernel
theorem dX3_isIn_18 : decode cX3_isIn 18 = .ok (.ireturn, 1) := by decide +kernel
theorem dX3_cut_0 : decode cX3_cut 0 = .ok (.iload_n 1, 1) := by decide +kernel
theorem dX3_cut_1 : decode cX3_cut 1 = .ok (.iconst 1, 1) := by decide +kernel
theorem dX3_cut_2 : decode cX3_cut 2 = .ok (.if_icmp .lt 47, 3) := by decide +kernel
theorem dX3_cut_5 : decode cX3_cut 5 = .ok (.iload_n 1, 1) := by decide +kernel
theorem dX3_cut_6 : decode cX3_cut 6 = .ok (.bipush 20, 2) := by decide +kernel
theorem dX3_cut_8 : decode cX3_cut 8 = .ok (.if_icmp .gt 41, 3) := by decide +kernel
theorem dX3_cut_11 : decode cX3_cut 11 = .ok (.iload_n 2, 1) := by decide +kernel
theorem dX3_cut_12 : decode cX3_cut 12 = .ok (.iconst 1, 1) := by decide +kernel
theorem dX3_cut_13 : decode cX3_cut 13 = .ok (.if_icmp .lt 36, 3) := by decide +kernel
theorem dX3_cut_16 : decode cX3_cut 16 = .ok (.iload_n 2, 1) := by decide +kernel
theorem dX3_cut_17 : decode cX3_cut 17 = .ok (.bipush 90, 2) := by decide +kernel
theorem dX3_cut_19 : decode cX3_cut 19 = .ok (.if_icmp .gt 30, 3) := by decide +kernel
theorem dX3_cut_22 : decode cX3_cut 22 = .ok (.dload_n 3, 1) := by decide +kernel
theorem dX3_cut_23 : decode cX3_cut 23 = .ok (.dconst 0, 1) := by decide +kernel
theorem dX3_cut_24 : decode cX3_cut 24 = .ok (.ldc2_w 74, 3) := by decide +kernel
theorem dX3_cut_27 : decode cX3_cut 27 = .ok (.invokestatic 76, 3) := by decide +kernel
theorem dX3_cut_30 : decode cX3_cut 30 = .ok (.ifCond .eq 19, 3) := by decide +kernel
theorem dX3_cut_33 : decode cX3_cut 33 = .ok (.iload 5, 2) := by decide +kernel
theorem dX3_cut_35 : decode cX3_cut 35 = .ok (.ifCond .lt 14, 3) := by decide +kernel
theorem dX3_cut_38 : decode cX3_cut 38 = .ok (.iload 5, 2) := by decide +kernel
theorem dX3_cut_40 : decode cX3_cut 40 = .ok (.bipush 8, 2) := by decide +kernel
theorem dX3_cut_42 : decode cX3_cut 42 = .ok (.if_icmp .ge 7, 3) := by decide +kernel
theorem dX3_cut_45 : decode cX3_cut 45 = .ok (.iconst 1, 1) := by decide +kernel
theorem dX3_cut_46 : decode cX3_cut 46 = .ok (.goto 4, 3) := by decide +kernel
theorem dX3_cut_49 : decode cX3_cut 49 = .ok (.iconst 0, 1) := by decide +kernel
theorem dX3_cut_50 : decode cX3_cut 50 = .ok (.istore 6, 2) := by decide +kernel
theorem dX3_cut_52 : decode cX3_cut 52 = .ok (.aload_n 0, 1) := by decide +kernel
theorem dX3_cut_53 : decode cX3_cut 53 = .ok (.iload 6, 2) := by decide +kernel
theorem dX3_cut_55 : decode cX3_cut 55 = .ok (.ifCond .ne 7, 3) := by decide +kernel
theorem dX3_cut_58 : decode cX3_cut 58 = .ok (.iconst 1, 1) := by decide +kernel
theorem dX3_cut_59 : decode cX3_cut 59 = .ok (.goto 17, 3) := by decide +kernel
theorem dX3_cut_62 : decode cX3_cut 62 = .ok (.aload_n 0, 1) := by decide +kernel
theorem dX3_cut_63 : decode cX3_cut 63 = .ok (.getfield 80, 3) := by decide +kernel
theorem dX3_cut_66 : decode cX3_cut 66 = .ok (.bipush 60, 2) := by decide +kernel
theorem dX3_cut_68 : decode cX3_cut 68 = .ok (.if_icmp .ne 7, 3) := by decide +kernel
theorem dX3_cut_71 : decode cX3_cut 71 = .ok (.iconst 2, 1) := by decide +kernel
theorem dX3_cut_72 : decode cX3_cut 72 = .ok (.goto 4, 3) := by decide +kernel
theorem dX3_cut_75 : decode cX3_cut 75 = .ok (.iconst 0, 1) := by decide +kernel
theorem dX3_cut_76 : decode cX3_cut 76 = .ok (.invokevirtual 83, 3) := by decide +kernel
theorem dX3_cut_79 : decode cX3_cut 79 = .ok (.ifCond .eq 5, 3) := by decide +kernel
theorem dX3_cut_82 : decode cX3_cut 82 = .ok (.iconst 0, 1) := by decide +kernel
theorem dX3_cut_83 : decode cX3_cut 83 = .ok (.ireturn, 1) := by decide +kernel
theorem dX3_cut_84 : decode cX3_cut 84 = .ok (.aload_n 0, 1) := by decide +kernel
theorem dX3_cut_85 : decode cX3_cut 85 = .ok (.getfield 13, 3) := by decide +kernel
theorem dX3_cut_88 : decode cX3_cut 88 = .ok (.aload_n 0, 1) := by decide +kernel
theorem dX3_cut_89 : decode cX3_cut 89 = .ok (.getfield 80, 3) := by decide +kernel
theorem dX3_cut_92 : decode cX3_cut 92 = .ok (.iload_n 1, 1) := by decide +kernel
theorem dX3_cut_93 : decode cX3_cut 93 = .ok (.iastore, 1) := by decide +kernel
theorem dX3_cut_94 : decode cX3_cut 94 = .ok (.aload_n 0, 1) := by decide +kernel
theorem dX3_cut_95 : decode cX3_cut 95 = .ok (.getfield 16, 3) := by decide +kernel
theorem dX3_cut_98 : decode cX3_cut 98 = .ok (.aload_n 0, 1) := by decide +kernel
theorem dX3_cut_99 : decode cX3_cut 99 = .ok (.getfield 80, 3) := by decide +kernel
theorem dX3_cut_102 : decode cX3_cut 102 = .ok (.iload_n 2, 1) := by decide +kernel
theorem dX3_cut_103 : decode cX3_cut 103 = .ok (.iastore, 1) := by decide +kernel
theorem dX3_cut_104 : decode cX3_cut 104 = .ok (.aload_n 0, 1) := by decide +kernel
theorem dX3_cut_105 : decode cX3_cut 105 = .ok (.getfield 19, 3) := by decide +kernel
theorem dX3_cut_108 : decode cX3_cut 108 = .ok (.aload_n 0, 1) := by decide +kernel
theorem dX3_cut_109 : decode cX3_cut 109 = .ok (.getfield 80, 3) := by decide +kernel
theorem dX3_cut_112 : decode cX3_cut 112 = .ok (.dload_n 3, 1) := by decide +kernel
theorem dX3_cut_113 : decode cX3_cut 113 = .ok (.dastore, 1) := by decide +kernel
theorem dX3_cut_114 : decode cX3_cut 114 = .ok (.aload_n 0, 1) := by decide +kernel
theorem dX3_cut_115 : decode cX3_cut 115 = .ok (.getfield 23, 3) := by decide +kernel
theorem dX3_cut_118 : decode cX3_cut 118 = .ok (.aload_n 0, 1) := by decide +kernel
theorem dX3_cut_119 : decode cX3_cut 119 = .ok (.getfield 80, 3) := by decide +kernel
theorem dX3_cut_122 : decode cX3_cut 122 = .ok (.iload 5, 2) := by decide +kernel
theorem dX3_cut_124 : decode cX3_cut 124 = .ok (.iastore, 1) := by decide +kernel
theorem dX3_cut_125 : decode cX3_cut 125 = .ok (.aload_n 0, 1) := by decide +kernel
theorem dX3_cut_126 : decode cX3_cut 126 = .ok (.getfield 38, 3) := by decide +kernel
theorem dX3_cut_129 : decode cX3_cut 129 = .ok (.aload_n 0, 1) := by decide +kernel
theorem dX3_cut_130 : decode cX3_cut 130 = .ok (.getfield 80, 3) := by decide +kernel
theorem dX3_cut_133 : decode cX3_cut 133 = .ok (.iconst (-1), 1) := by decide +kernel
theorem dX3_cut_134 : decode cX3_cut 134 = .ok (.iastore, 1) := by decide +kernel
theorem dX3_cut_135 : decode cX3_cut 135 = .ok (.aload_n 0, 1) := by decide +kernel
theorem dX3_cut_136 : decode cX3_cut 136 = .ok (.dup, 1) := by decide +kernel
theorem dX3_cut_137 : decode cX3_cut 137 = .ok (.getfield 80, 3) := by decide +kernel
theorem dX3_cut_140 : decode cX3_cut 140 = .ok (.iconst 1, 1) := by decide +kernel
theorem dX3_cut_141 : decode cX3_cut 141 = .ok (.iadd, 1) := by decide +kernel
theorem dX3_cut_142 : decode cX3_cut 142 = .ok (.putfield 80, 3) := by decide +kernel
theorem dX3_cut_145 : decode cX3_cut 145 = .ok (.aload_n 0, 1) := by decide +kernel
theorem dX3_cut_146 : decode cX3_cut 146 = .ok (.getfield 80, 3) := by decide +kernel
theorem dX3_cut_149 : decode cX3_cut 149 = .ok (.iconst 1, 1) := by decide +kernel
theorem dX3_cut_150 : decode cX3_cut 150 = .ok (.isub, 1) := by decide +kernel
theorem dX3_cut_151 : decode cX3_cut 151 = .ok (.ireturn, 1) := by decide +kernel
theorem dX3_push_0 : decode cX3_push 0 = .ok (.aload_n 0, 1) := by decide +kernel
theorem dX3_push_1 : decode cX3_push 1 = .ok (.dload_n 1, 1) := by decide +kernel
theorem dX3_push_2 : decode cX3_push 2 = .ok (.dconst 0, 1) := by decide +kernel
theorem dX3_push_3 : decode cX3_push 3 = .ok (.ldc2_w 87, 3) := by decide +kernel
theorem dX3_push_6 : decode cX3_push 6 = .ok (.invokestatic 76, 3) := by decide +kernel
theorem dX3_push_9 : decode cX3_push 9 = .ok (.ifCond .eq 7, 3) := by decide +kernel
theorem dX3_push_12 : decode cX3_push 12 = .ok (.iconst 0, 1) := by decide +kernel
theorem dX3_push_13 : decode cX3_push 13 = .ok (.goto 4, 3) := by decide +kernel
theorem dX3_push_16 : decode cX3_push 16 = .ok (.iconst 1, 1) := by decide +kernel
theorem dX3_push_17 : decode cX3_push 17 = .ok (.invokevirtual 83, 3) := by decide +kernel
theorem dX3_push_20 : decode cX3_push 20 = .ok (.ifCond .eq 5, 3) := by decide +kernel
theorem dX3_push_23 : decode cX3_push 23 = .ok (.dconst 0, 1) := by decide +kernel
theorem dX3_push_24 : decode cX3_push 24 = .ok (.dreturn, 1) := by decide +kernel
theorem dX3_push_25 : decode cX3_push 25 = .ok (.aload_n 0, 1) := by decide +kernel
theorem dX3_push_26 : decode cX3_push 26 = .ok (.getfield 89, 3) := by decide +kernel
theorem dX3_push_29 : decode cX3_push 29 = .ok (.dstore_n 3, 1) := by decide +kernel
theorem dX3_push_30 : decode cX3_push 30 = .ok (.aload_n 0, 1) := by decide +kernel
theorem dX3_push_31 : decode cX3_push 31 = .ok (.dload_n 1, 1) := by decide +kernel
theorem dX3_push_32 : decode cX3_push 32 = .ok (.putfield 89, 3) := by decide +kernel
theorem dX3_push_35 : decode cX3_push 35 = .ok (.dload_n 3, 1) := by decide +kernel
theorem dX3_push_36 : decode cX3_push 36 = .ok (.dreturn, 1) := by decide +kernel
theorem dX3_wish_0 : decode cX3_wish 0 = .ok (.aload_n 0, 1) := by decide +kernel
theorem dX3_wish_1 : decode cX3_wish 1 = .ok (.iload_n 1, 1) := by decide +kernel
theorem dX3_wish_2 : decode cX3_wish 2 = .ok (.ifCond .lt 9, 3) := by decide +kernel
theorem dX3_wish_5 : decode cX3_wish 5 = .ok (.iload_n 1, 1) := by decide +kernel
theorem dX3_wish_6 : decode cX3_wish 6 = .ok (.bipush 9, 2) := by decide +kernel
theorem dX3_wish_8 : decode cX3_wish 8 = .ok (.if_icmp .lt 7, 3) := by decide +kernel
theorem dX3_wish_11 : decode cX3_wish 11 = .ok (.iconst 1, 1) := by decide +kernel
theorem dX3_wish_12 : decode cX3_wish 12 = .ok (.goto 19, 3) := by decide +kernel
theorem dX3_wish_15 : decode cX3_wish 15 = .ok (.dload_n 2, 1) := by decide +kernel
theorem dX3_wish_16 : decode cX3_wish 16 = .ok (.dconst 0, 1) := by decide +kernel
theorem dX3_wish_17 : decode cX3_wish 17 = .ok (.ldc2_w 93, 3) := by decide +kernel
theorem dX3_wish_20 : decode cX3_wish 20 = .ok (.invokestatic 76, 3) := by decide +kernel
theorem dX3_wish_23 : decode cX3_wish 23 = .ok (.ifCond .eq 7, 3) := by decide +kernel
theorem dX3_wish_26 : decode cX3_wish 26 = .ok (.iconst 0, 1) := by decide +kernel
theorem dX3_wish_27 : decode cX3_wish 27 = .ok (.goto 4, 3) := by decide +kernel
theorem dX3_wish_30 : decode cX3_wish 30 = .ok (.iconst 2, 1) := by decide +kernel
theorem dX3_wish_31 : decode cX3_wish 31 = .ok (.invokevirtual 83, 3) := by decide +kernel
theorem dX3_wish_34 : decode cX3_wish 34 = .ok (.ifCond .eq 5, 3) := by decide +kernel
theorem dX3_wish_37 : decode cX3_wish 37 = .ok (.dconst 0, 1) := by decide +kernel
theorem dX3_wish_38 : decode cX3_wish 38 = .ok (.dreturn, 1) := by decide +kernel
theorem dX3_wish_39 : decode cX3_wish 39 = .ok (.aload_n 0, 1) := by decide +kernel
theorem dX3_wish_40 : decode cX3_wish 40 = .ok (.getfield 41, 3) := by decide +kernel
theorem dX3_wish_43 : decode cX3_wish 43 = .ok (.iload_n 1, 1) := by decide +kernel
theorem dX3_wish_44 : decode cX3_wish 44 = .ok (.daload, 1) := by decide +kernel
theorem dX3_wish_45 : decode cX3_wish 45 = .ok (.dstore 4, 2) := by decide +kernel
theorem dX3_wish_47 : decode cX3_wish 47 = .ok (.aload_n 0, 1) := by decide +kernel
theorem dX3_wish_48 : decode cX3_wish 48 = .ok (.getfield 41, 3) := by decide +kernel
theorem dX3_wish_51 : decode cX3_wish 51 = .ok (.iload_n 1, 1) := by decide +kernel
theorem dX3_wish_52 : decode cX3_wish 52 = .ok (.dload_n 2, 1) := by decide +kernel
theorem dX3_wish_53 : decode cX3_wish 53 = .ok (.dastore, 1) := by decide +kernel
theorem dX3_wish_54 : decode cX3_wish 54 = .ok (.dload 4, 2) := by decide +kernel
theorem dX3_wish_56 : decode cX3_wish 56 = .ok (.dreturn, 1) := by decide +kernel
theorem dX3_stick_0 : decode cX3_stick 0 = .ok (.aload_n 0, 1) := by decide +kernel
theorem dX3_stick_1 : decode cX3_stick 1 = .ok (.iload_n 1, 1) := by decide +kernel
theorem dX3_stick_2 : decode cX3_stick 2 = .ok (.ifCond .lt 9, 3) := by decide +kernel
theorem dX3_stick_5 : decode cX3_stick 5 = .ok (.iload_n 1, 1) := by decide +kernel
theorem dX3_stick_6 : decode cX3_stick 6 = .ok (.bipush 7, 2) := by decide +kernel
theorem dX3_stick_8 : decode cX3_stick 8 = .ok (.if_icmp .lt 7, 3) := by decide +kernel
theorem dX3_stick_11 : decode cX3_stick 11 = .ok (.iconst 1, 1) := by decide +kernel
theorem dX3_stick_12 : decode cX3_stick 12 = .ok (.goto 4, 3) := by decide +kernel
theorem dX3_stick_15 : decode cX3_stick 15 = .ok (.iconst 0, 1) := by decide +kernel
theorem dX3_stick_16 : decode cX3_stick 16 = .ok (.invokevirtual 83, 3) := by decide +kernel
theorem dX3_stick_19 : decode cX3_stick 19 = .ok (.ifCond .eq 5, 3) := by decide +kernel
theorem dX3_stick_22 : decode cX3_stick 22 = .ok (.iconst 0, 1) := by decide +kernel
theorem dX3_stick_23 : decode cX3_stick 23 = .ok (.ireturn, 1) := by decide +kernel
theorem dX3_stick_24 : decode cX3_stick 24 = .ok (.aload_n 0, 1) := by decide +kernel
theorem dX3_stick_25 : decode cX3_stick 25 = .ok (.getfield 53, 3) := by decide +kernel
theorem dX3_stick_28 : decode cX3_stick 28 = .ok (.iload_n 1, 1) := by decide +kernel
theorem dX3_stick_29 : decode cX3_stick 29 = .ok (.baload, 1) := by decide +kernel
theorem dX3_stick_30 : decode cX3_stick 30 = .ok (.istore_n 3, 1) := by decide +kernel
theorem dX3_stick_31 : decode cX3_stick 31 = .ok (.aload_n 0, 1) := by decide +kernel
theorem dX3_stick_32 : decode cX3_stick 32 = .ok (.getfield 53, 3) := by decide +kernel
theorem dX3_stick_35 : decode cX3_stick 35 = .ok (.iload_n 1, 1) := by decide +kernel
theorem dX3_stick_36 : decode cX3_stick 36 = .ok (.iload_n 2, 1) := by decide +kernel
theorem dX3_stick_37 : decode cX3_stick 37 = .ok (.bastore, 1) := by decide +kernel
theorem dX3_stick_38 : decode cX3_stick 38 = .ok (.iload_n 3, 1) := by decide +kernel
theorem dX3_stick_39 : decode cX3_stick 39 = .ok (.ireturn, 1) := by decide +kernel
theorem dX3_fill_0 : decode cX3_fill 0 = .ok (.aload_n 0, 1) := by decide +kernel
theorem dX3_fill_1 : decode cX3_fill 1 = .ok (.iload_n 1, 1) := by decide +kernel
theorem dX3_fill_2 : decode cX3_fill 2 = .ok (.ifCond .lt 9, 3) := by decide +kernel
theorem dX3_fill_5 : decode cX3_fill 5 = .ok (.iload_n 1, 1) := by decide +kernel
theorem dX3_fill_6 : decode cX3_fill 6 = .ok (.bipush 8, 2) := by decide +kernel
theorem dX3_fill_8 : decode cX3_fill 8 = .ok (.if_icmp .lt 7, 3) := by decide +kernel
theorem dX3_fill_11 : decode cX3_fill 11 = .ok (.iconst 1, 1) := by decide +kernel
theorem dX3_fill_12 : decode cX3_fill 12 = .ok (.goto 19, 3) := by decide +kernel
theorem dX3_fill_15 : decode cX3_fill 15 = .ok (.dload_n 2, 1) := by decide +kernel
theorem dX3_fill_16 : decode cX3_fill 16 = .ok (.dconst 0, 1) := by decide +kernel
theorem dX3_fill_17 : decode cX3_fill 17 = .ok (.ldc2_w 95, 3) := by decide +kernel
theorem dX3_fill_20 : decode cX3_fill 20 = .ok (.invokestatic 76, 3) := by decide +kernel
theorem dX3_fill_23 : decode cX3_fill 23 = .ok (.ifCond .eq 7, 3) := by decide +kernel
theorem dX3_fill_26 : decode cX3_fill 26 = .ok (.iconst 0, 1) := by decide +kernel
theorem dX3_fill_27 : decode cX3_fill 27 = .ok (.goto 4, 3) := by decide +kernel
theorem dX3_fill_30 : decode cX3_fill 30 = .ok (.iconst 2, 1) := by decide +kernel
theorem dX3_fill_31 : decode cX3_fill 31 = .ok (.invokevirtual 83, 3) := by decide +kernel
theorem dX3_fill_34 : decode cX3_fill 34 = .ok (.ifCond .eq 5, 3) := by decide +kernel
theorem dX3_fill_37 : decode cX3_fill 37 = .ok (.dconst 0, 1) := by decide +kernel
theorem dX3_fill_38 : decode cX3_fill 38 = .ok (.dreturn, 1) := by decide +kernel
theorem dX3_fill_39 : decode cX3_fill 39 = .ok (.aload_n 0, 1) := by decide +kernel
theorem dX3_fill_40 : decode cX3_fill 40 = .ok (.getfield 44, 3) := by decide +kernel
theorem dX3_fill_43 : decode cX3_fill 43 = .ok (.iload_n 1, 1) := by decide +kernel
theorem dX3_fill_44 : decode cX3_fill 44 = .ok (.daload, 1) := by decide +kernel
theorem dX3_fill_45 : decode cX3_fill 45 = .ok (.dstore 4, 2) := by decide +kernel
theorem dX3_fill_47 : decode cX3_fill 47 = .ok (.aload_n 0, 1) := by decide +kernel
theorem dX3_fill_48 : decode cX3_fill 48 = .ok (.getfield 44, 3) := by decide +kernel
theorem dX3_fill_51 : decode cX3_fill 51 = .ok (.iload_n 1, 1) := by decide +kernel
theorem dX3_fill_52 : decode cX3_fill 52 = .ok (.dload_n 2, 1) := by decide +kernel
theorem dX3_fill_53 : decode cX3_fill 53 = .ok (.dastore, 1) := by decide +kernel
theorem dX3_fill_54 : decode cX3_fill 54 = .ok (.dload 4, 2) := by decide +kernel
theorem dX3_fill_56 : decode cX3_fill 56 = .ok (.dreturn, 1) := by decide +kernel
theorem dX3_level_0 : decode cX3_level 0 = .ok (.iload_n 0, 1) := by decide +kernel
theorem dX3_level_1 : decode cX3_level 1 = .ok (.ifCond .ne 7, 3) := by decide +kernel
theorem dX3_level_4 : decode cX3_level 4 = .ok (.iconst 0, 1) := by decide +kernel
theorem dX3_level_5 : decode cX3_level 5 = .ok (.goto 13, 3) := by decide +kernel
theorem dX3_level_8 : decode cX3_level 8 = .ok (.iload_n 0, 1) := by decide +kernel
theorem dX3_level_9 : decode cX3_level 9 = .ok (.iconst 3, 1) := by decide +kernel
theorem dX3_level_10 : decode cX3_level 10 = .ok (.if_icmp .ge 7, 3) := by decide +kernel
theorem dX3_level_13 : decode cX3_level 13 = .ok (.iconst 1, 1) := by decide +kernel
theorem dX3_level_14 : decode cX3_level 14 = .ok (.goto 4, 3) := by decide +kernel
theorem dX3_level_17 : decode cX3_level 17 = .ok (.iconst 2, 1) := by decide +kernel
theorem dX3_level_18 : decode cX3_level 18 = .ok (.ireturn, 1) := by decide +kernel
theorem dX3_placeOf_0 : decode cX3_placeOf 0 = .ok (.ldc2_w 97, 3) := by decide +kernel
theorem dX3_placeOf_3 : decode cX3_placeOf 3 = .ok (.ldc2_w 99, 3) := by decide +kernel
theorem dX3_placeOf_6 : decode cX3_placeOf 6 = .ok (.iload_n 0, 1) := by decide +kernel
theorem dX3_placeOf_7 : decode cX3_placeOf 7 = .ok (.invokestatic 101, 3) := by decide +kernel
theorem dX3_placeOf_10 : decode cX3_placeOf 10 = .ok (.i2d, 1) := by decide +kernel
theorem dX3_placeOf_11 : decode cX3_placeOf 11 = .ok (.dmul, 1) := by decide +kernel
theorem dX3_placeOf_12 : decode cX3_placeOf 12 = .ok (.dadd, 1) := by decide +kernel
theorem dX3_placeOf_13 : decode cX3_placeOf 13 = .ok (.dreturn, 1) := by decide +kernel
theorem dX3_wayTo_0 : decode cX3_wayTo 0 = .ok (.iload_n 0, 1) := by decide +kernel
theorem dX3_wayTo_1 : decode cX3_wayTo 1 = .ok (.iconst 1, 1) := by decide +kernel
theorem dX3_wayTo_2 : decode cX3_wayTo 2 = .ok (.iadd, 1) := by decide +kernel
theorem dX3_wayTo_3 : decode cX3_wayTo 3 = .ok (.iconst 1, 1) := by decide +kernel
theorem dX3_wayTo_4 : decode cX3_wayTo 4 = .ok (.iload_n 0, 1) := by decide +kernel
theorem dX3_wayTo_5 : decode cX3_wayTo 5 = .ok (.invokestatic 101, 3) := by decide +kernel
theorem dX3_wayTo_8 : decode cX3_wayTo 8 = .ok (.ishl, 1) := by decide +kernel
theorem dX3_wayTo_9 : decode cX3_wayTo 9 = .ok (.isub, 1) := by decide +kernel
theorem dX3_wayTo_10 : decode cX3_wayTo 10 = .ok (.ireturn, 1) := by decide +kernel
theorem dX3_goesBy_0 : decode cX3_goesBy 0 = .ok (.iload_n 2, 1) := by decide +kernel
theorem dX3_goesBy_1 : decode cX3_goesBy 1 = .ok (.invokestatic 101, 3) := by decide +kernel
theorem dX3_goesBy_4 : decode cX3_goesBy 4 = .ok (.istore_n 3, 1) := by decide +kernel
theorem dX3_goesBy_5 : decode cX3_goesBy 5 = .ok (.aload_n 0, 1) := by decide +kernel
theorem dX3_goesBy_6 : decode cX3_goesBy 6 = .ok (.getfield 32, 3) := by decide +kernel
theorem dX3_goesBy_9 : decode cX3_goesBy 9 = .ok (.iload_n 1, 1) := by decide +kernel
theorem dX3_goesBy_10 : decode cX3_goesBy 10 = .ok (.iaload, 1) := by decide +kernel
theorem dX3_goesBy_11 : decode cX3_goesBy 11 = .ok (.iload_n 3, 1) := by decide +kernel
theorem dX3_goesBy_12 : decode cX3_goesBy 12 = .ok (.if_icmp .lt 33, 3) := by decide +kernel
theorem dX3_goesBy_15 : decode cX3_goesBy 15 = .ok (.aload_n 0, 1) := by decide +kernel
theorem dX3_goesBy_16 : decode cX3_goesBy 16 = .ok (.getfield 35, 3) := by decide +kernel
theorem dX3_goesBy_19 : decode cX3_goesBy 19 = .ok (.iload_n 1, 1) := by decide +kernel
theorem dX3_goesBy_20 : decode cX3_goesBy 20 = .ok (.iaload, 1) := by decide +kernel
theorem dX3_goesBy_21 : decode cX3_goesBy 21 = .ok (.aload_n 0, 1) := by decide +kernel
theorem dX3_goesBy_22 : decode cX3_goesBy 22 = .ok (.getfield 32, 3) := by decide +kernel
theorem dX3_goesBy_25 : decode cX3_goesBy 25 = .ok (.iload_n 1, 1) := by decide +kernel
theorem dX3_goesBy_26 : decode cX3_goesBy 26 = .ok (.iaload, 1) := by decide +kernel
theorem dX3_goesBy_27 : decode cX3_goesBy 27 = .ok (.iload_n 3, 1) := by decide +kernel
theorem dX3_goesBy_28 : decode cX3_goesBy 28 = .ok (.isub, 1) := by decide +kernel
theorem dX3_goesBy_29 : decode cX3_goesBy 29 = .ok (.ishr, 1) := by decide +kernel
theorem dX3_goesBy_30 : decode cX3_goesBy 30 = .ok (.iload_n 2, 1) := by decide +kernel
theorem dX3_goesBy_31 : decode cX3_goesBy 31 = .ok (.invokestatic 105, 3) := by decide +kernel
theorem dX3_goesBy_34 : decode cX3_goesBy 34 = .ok (.if_icmp .ne 7, 3) := by decide +kernel
theorem dX3_goesBy_37 : decode cX3_goesBy 37 = .ok (.iconst 1, 1) := by decide +kernel
theorem dX3_goesBy_38 : decode cX3_goesBy 38 = .ok (.goto 34, 3) := by decide +kernel
theorem dX3_goesBy_41 : decode cX3_goesBy 41 = .ok (.iconst 0, 1) := by decide +kernel
theorem dX3_goesBy_42 : decode cX3_goesBy 42 = .ok (.goto 30, 3) := by decide +kernel
theorem dX3_goesBy_45 : decode cX3_goesBy 45 = .ok (.aload_n 0, 1) := by decide +kernel
theorem dX3_goesBy_46 : decode cX3_goesBy 46 = .ok (.getfield 35, 3) := by decide +kernel
theorem dX3_goesBy_49 : decode cX3_goesBy 49 = .ok (.iload_n 1, 1) := by decide +kernel
theorem dX3_goesBy_50 : decode cX3_goesBy 50 = .ok (.iaload, 1) := by decide +kernel
theorem dX3_goesBy_51 : decode cX3_goesBy 51 = .ok (.iload_n 2, 1) := by decide +kernel
theorem dX3_goesBy_52 : decode cX3_goesBy 52 = .ok (.invokestatic 105, 3) := by decide +kernel
theorem dX3_goesBy_55 : decode cX3_goesBy 55 = .ok (.iload_n 3, 1) := by decide +kernel
theorem dX3_goesBy_56 : decode cX3_goesBy 56 = .ok (.aload_n 0, 1) := by decide +kernel
theorem dX3_goesBy_57 : decode cX3_goesBy 57 = .ok (.getfield 32, 3) := by decide +kernel
theorem dX3_goesBy_60 : decode cX3_goesBy 60 = .ok (.iload_n 1, 1) := by decide +kernel
theorem dX3_goesBy_61 : decode cX3_goesBy 61 = .ok (.iaload, 1) := by decide +kernel
theorem dX3_goesBy_62 : decode cX3_goesBy 62 = .ok (.isub, 1) := by decide +kernel
theorem dX3_goesBy_63 : decode cX3_goesBy 63 = .ok (.ishr, 1) := by decide +kernel
theorem dX3_goesBy_64 : decode cX3_goesBy 64 = .ok (.if_icmp .ne 7, 3) := by decide +kernel
theorem dX3_goesBy_67 : decode cX3_goesBy 67 = .ok (.iconst 1, 1) := by decide +kernel
theorem dX3_goesBy_68 : decode cX3_goesBy 68 = .ok (.goto 4, 3) := by decide +kernel
theorem dX3_goesBy_71 : decode cX3_goesBy 71 = .ok (.iconst 0, 1) := by decide +kernel
theorem dX3_goesBy_72 : decode cX3_goesBy 72 = .ok (.ireturn, 1) := by decide +kernel
theorem dX3_rear_0 : decode cX3_rear 0 = .ok (.aload_n 0, 1) := by decide +kernel
theorem dX3_rear_1 : decode cX3_rear 1 = .ok (.getfield 26, 3) := by decide +kernel
theorem dX3_rear_4 : decode cX3_rear 4 = .ok (.iload_n 1, 1) := by decide +kernel
theorem dX3_rear_5 : decode cX3_rear 5 = .ok (.daload, 1) := by decide +kernel
theorem dX3_rear_6 : decode cX3_rear 6 = .ok (.ldc2_w 108, 3) := by decide +kernel
theorem dX3_rear_9 : decode cX3_rear 9 = .ok (.aload_n 0, 1) := by decide +kernel
theorem dX3_rear_10 : decode cX3_rear 10 = .ok (.getfield 13, 3) := by decide +kernel
theorem dX3_rear_13 : decode cX3_rear 13 = .ok (.iload_n 1, 1) := by decide +kernel
theorem dX3_rear_14 : decode cX3_rear 14 = .ok (.iaload, 1) := by decide +kernel
theorem dX3_rear_15 : decode cX3_rear 15 = .ok (.i2d, 1) := by decide +kernel
theorem dX3_rear_16 : decode cX3_rear 16 = .ok (.dmul, 1) := by decide +kernel
theorem dX3_rear_17 : decode cX3_rear 17 = .ok (.dsub, 1) := by decide +kernel
theorem dX3_rear_18 : decode cX3_rear 18 = .ok (.dreturn, 1) := by decide +kernel
theorem dX3_isBusy_0 : decode cX3_isBusy 0 = .ok (.iconst 0, 1) := by decide +kernel
theorem dX3_isBusy_1 : decode cX3_isBusy 1 = .ok (.istore_n 2, 1) := by decide +kernel
theorem dX3_isBusy_2 : decode cX3_isBusy 2 = .ok (.iload_n 2, 1) := by decide +kernel
theorem dX3_isBusy_3 : decode cX3_isBusy 3 = .ok (.aload_n 0, 1) := by decide +kernel
theorem dX3_isBusy_4 : decode cX3_isBusy 4 = .ok (.getfield 80, 3) := by decide +kernel
theorem dX3_isBusy_7 : decode cX3_isBusy 7 = .ok (.if_icmp .ge 65, 3) := by decide +kernel
theorem dX3_isBusy_10 : decode cX3_isBusy 10 = .ok (.aload_n 0, 1) := by decide +kernel
theorem dX3_isBusy_11 : decode cX3_isBusy 11 = .ok (.getfield 7, 3) := by decide +kernel
theorem dX3_isBusy_14 : decode cX3_isBusy 14 = .ok (.iload_n 2, 1) := by decide +kernel
theorem dX3_isBusy_15 : decode cX3_isBusy 15 = .ok (.iaload, 1) := by decide +kernel
theorem dX3_isBusy_16 : decode cX3_isBusy 16 = .ok (.iconst 1, 1) := by decide +kernel
theorem dX3_isBusy_17 : decode cX3_isBusy 17 = .ok (.if_icmp .ne 49, 3) := by decide +kernel
theorem dX3_isBusy_20 : decode cX3_isBusy 20 = .ok (.aload_n 0, 1) := by decide +kernel
theorem dX3_isBusy_21 : decode cX3_isBusy 21 = .ok (.iload_n 2, 1) := by decide +kernel
theorem dX3_isBusy_22 : decode cX3_isBusy 22 = .ok (.iload_n 1, 1) := by decide +kernel
theorem dX3_isBusy_23 : decode cX3_isBusy 23 = .ok (.invokevirtual 110, 3) := by decide +kernel
theorem dX3_isBusy_26 : decode cX3_isBusy 26 = .ok (.ifCond .eq 40, 3) := by decide +kernel
theorem dX3_isBusy_29 : decode cX3_isBusy 29 = .ok (.aload_n 0, 1) := by decide +kernel
theorem dX3_isBusy_30 : decode cX3_isBusy 30 = .ok (.getfield 26, 3) := by decide +kernel
theorem dX3_isBusy_33 : decode cX3_isBusy 33 = .ok (.iload_n 2, 1) := by decide +kernel
theorem dX3_isBusy_34 : decode cX3_isBusy 34 = .ok (.daload, 1) := by decide +kernel
theorem dX3_isBusy_35 : decode cX3_isBusy 35 = .ok (.iload_n 1, 1) := by decide +kernel
theorem dX3_isBusy_36 : decode cX3_isBusy 36 = .ok (.invokestatic 114, 3) := by decide +kernel
theorem dX3_isBusy_39 : decode cX3_isBusy 39 = .ok (.ldc2_w 118, 3) := by decide +kernel
theorem dX3_isBusy_42 : decode cX3_isBusy 42 = .ok (.dsub, 1) := by decide +kernel
theorem dX3_isBusy_43 : decode cX3_isBusy 43 = .ok (.dcmp .l, 1) := by decide +kernel
theorem dX3_isBusy_44 : decode cX3_isBusy 44 = .ok (.ifCond .lt 22, 3) := by decide +kernel
theorem dX3_isBusy_47 : decode cX3_isBusy 47 = .ok (.aload_n 0, 1) := by decide +kernel
theorem dX3_isBusy_48 : decode cX3_isBusy 48 = .ok (.iload_n 2, 1) := by decide +kernel
theorem dX3_isBusy_49 : decode cX3_isBusy 49 = .ok (.invokevirtual 120, 3) := by decide +kernel
theorem dX3_isBusy_52 : decode cX3_isBusy 52 = .ok (.iload_n 1, 1) := by decide +kernel
theorem dX3_isBusy_53 : decode cX3_isBusy 53 = .ok (.invokestatic 114, 3) := by decide +kernel
theorem dX3_isBusy_56 : decode cX3_isBusy 56 = .ok (.ldc2_w 123, 3) := by decide +kernel
theorem dX3_isBusy_59 : decode cX3_isBusy 59 = .ok (.dadd, 1) := by decide +kernel
theorem dX3_isBusy_60 : decode cX3_isBusy 60 = .ok (.dcmp .g, 1) := by decide +kernel
theorem dX3_isBusy_61 : decode cX3_isBusy 61 = .ok (.ifCond .gt 5, 3) := by decide +kernel
theorem dX3_isBusy_64 : decode cX3_isBusy 64 = .ok (.iconst 1, 1) := by decide +kernel
theorem dX3_isBusy_65 : decode cX3_isBusy 65 = .ok (.ireturn, 1) := by decide +kernel
theorem dX3_isBusy_66 : decode cX3_isBusy 66 = .ok (.iinc 2 1, 3) := by decide +kernel
theorem dX3_isBusy_69 : decode cX3_isBusy 69 = .ok (.goto (-67), 3) := by decide +kernel
theorem dX3_isBusy_72 : decode cX3_isBusy 72 = .ok (.iconst 0, 1) := by decide +kernel
theorem dX3_isBusy_73 : decode cX3_isBusy 73 = .ok (.ireturn, 1) := by decide +kernel
theorem dX3_leads_0 : decode cX3_leads 0 = .ok (.iload_n 1, 1) := by decide +kernel
theorem dX3_leads_1 : decode cX3_leads 1 = .ok (.iconst 3, 1) := by decide +kernel
theorem dX3_leads_2 : decode cX3_leads 2 = .ok (.iload_n 0, 1) := by decide +kernel
theorem dX3_leads_3 : decode cX3_leads 3 = .ok (.invokestatic 101, 3) := by decide +kernel
theorem dX3_leads_6 : decode cX3_leads 6 = .ok (.isub, 1) := by decide +kernel
theorem dX3_leads_7 : decode cX3_leads 7 = .ok (.ishr, 1) := by decide +kernel
theorem dX3_leads_8 : decode cX3_leads 8 = .ok (.iload_n 0, 1) := by decide +kernel
theorem dX3_leads_9 : decode cX3_leads 9 = .ok (.invokestatic 105, 3) := by decide +kernel
theorem dX3_leads_12 : decode cX3_leads 12 = .ok (.if_icmp .ne 7, 3) := by decide +kernel
theorem dX3_leads_15 : decode cX3_leads 15 = .ok (.iconst 1, 1) := by decide +kernel
theorem dX3_leads_16 : decode cX3_leads 16 = .ok (.goto 4, 3) := by decide +kernel
theorem dX3_leads_19 : decode cX3_leads 19 = .ok (.iconst 0, 1) := by decide +kernel
theorem dX3_leads_20 : decode cX3_leads 20 = .ok (.ireturn, 1) := by decide +kernel
theorem dX3_bound_0 : decode cX3_bound 0 = .ok (.iconst (-1), 1) := by decide +kernel
theorem dX3_bound_1 : decode cX3_bound 1 = .ok (.istore_n 2, 1) := by decide +kernel
theorem dX3_bound_2 : decode cX3_bound 2 = .ok (.iconst 0, 1) := by decide +kernel
theorem dX3_bound_3 : decode cX3_bound 3 = .ok (.istore_n 3, 1) := by decide +kernel
theorem dX3_bound_4 : decode cX3_bound 4 = .ok (.iload_n 3, 1) := by decide +kernel
theorem dX3_bound_5 : decode cX3_bound 5 = .ok (.aload_n 0, 1) := by decide +kernel
theorem dX3_bound_6 : decode cX3_bound 6 = .ok (.getfield 80, 3) := by decide +kernel
theorem dX3_bound_9 : decode cX3_bound 9 = .ok (.if_icmp .ge 77, 3) := by decide +kernel
theorem dX3_bound_12 : decode cX3_bound 12 = .ok (.aload_n 0, 1) := by decide +kernel
theorem dX3_bound_13 : decode cX3_bound 13 = .ok (.getfield 7, 3) := by decide +kernel
theorem dX3_bound_16 : decode cX3_bound 16 = .ok (.iload_n 3, 1) := by decide +kernel
theorem dX3_bound_17 : decode cX3_bound 17 = .ok (.iaload, 1) := by decide +kernel
theorem dX3_bound_18 : decode cX3_bound 18 = .ok (.iconst 1, 1) := by decide +kernel
theorem dX3_bound_19 : decode cX3_bound 19 = .ok (.if_icmp .ne 61, 3) := by decide +kernel
theorem dX3_bound_22 : decode cX3_bound 22 = .ok (.aload_n 0, 1) := by decide +kernel
theorem dX3_bound_23 : decode cX3_bound 23 = .ok (.getfield 32, 3) := by decide +kernel
theorem dX3_bound_26 : decode cX3_bound 26 = .ok (.iload_n 3, 1) := by decide +kernel
theorem dX3_bound_27 : decode cX3_bound 27 = .ok (.iaload, 1) := by decide +kernel
theorem dX3_bound_28 : decode cX3_bound 28 = .ok (.iload_n 1, 1) := by decide +kernel
theorem dX3_bound_29 : decode cX3_bound 29 = .ok (.invokestatic 101, 3) := by decide +kernel
theorem dX3_bound_32 : decode cX3_bound 32 = .ok (.if_icmp .gt 48, 3) := by decide +kernel
theorem dX3_bound_35 : decode cX3_bound 35 = .ok (.aload_n 0, 1) := by decide +kernel
theorem dX3_bound_36 : decode cX3_bound 36 = .ok (.iload_n 3, 1) := by decide +kernel
theorem dX3_bound_37 : decode cX3_bound 37 = .ok (.iload_n 1, 1) := by decide +kernel
theorem dX3_bound_38 : decode cX3_bound 38 = .ok (.invokevirtual 110, 3) := by decide +kernel
theorem dX3_bound_41 : decode cX3_bound 41 = .ok (.ifCond .eq 39, 3) := by decide +kernel
theorem dX3_bound_44 : decode cX3_bound 44 = .ok (.iload_n 1, 1) := by decide +kernel
theorem dX3_bound_45 : decode cX3_bound 45 = .ok (.aload_n 0, 1) := by decide +kernel
theorem dX3_bound_46 : decode cX3_bound 46 = .ok (.getfield 23, 3) := by decide +kernel
theorem dX3_bound_49 : decode cX3_bound 49 = .ok (.iload_n 3, 1) := by decide +kernel
theorem dX3_bound_50 : decode cX3_bound 50 = .ok (.iaload, 1) := by decide +kernel
theorem dX3_bound_51 : decode cX3_bound 51 = .ok (.invokestatic 125, 3) := by decide +kernel
theorem dX3_bound_54 : decode cX3_bound 54 = .ok (.ifCond .eq 26, 3) := by decide +kernel
theorem dX3_bound_57 : decode cX3_bound 57 = .ok (.iload_n 2, 1) := by decide +kernel
theorem dX3_bound_58 : decode cX3_bound 58 = .ok (.iconst (-1), 1) := by decide +kernel
theorem dX3_bound_59 : decode cX3_bound 59 = .ok (.if_icmp .eq 19, 3) := by decide +kernel
theorem dX3_bound_62 : decode cX3_bound 62 = .ok (.aload_n 0, 1) := by decide +kernel
theorem dX3_bound_63 : decode cX3_bound 63 = .ok (.getfield 26, 3) := by decide +kernel
theorem dX3_bound_66 : decode cX3_bound 66 = .ok (.iload_n 3, 1) := by decide +kernel
theorem dX3_bound_67 : decode cX3_bound 67 = .ok (.daload, 1) := by decide +kernel
theorem dX3_bound_68 : decode cX3_bound 68 = .ok (.aload_n 0, 1) := by decide +kernel
theorem dX3_bound_69 : decode cX3_bound 69 = .ok (.getfield 26, 3) := by decide +kernel
theorem dX3_bound_72 : decode cX3_bound 72 = .ok (.iload_n 2, 1) := by decide +kernel
theorem dX3_bound_73 : decode cX3_bound 73 = .ok (.daload, 1) := by decide +kernel
theorem dX3_bound_74 : decode cX3_bound 74 = .ok (.dcmp .l, 1) := by decide +kernel
theorem dX3_bound_75 : decode cX3_bound 75 = .ok (.ifCond .le 5, 3) := by decide +kernel
theorem dX3_bound_78 : decode cX3_bound 78 = .ok (.iload_n 3, 1) := by decide +kernel
theorem dX3_bound_79 : decode cX3_bound 79 = .ok (.istore_n 2, 1) := by decide +kernel
theorem dX3_bound_80 : decode cX3_bound 80 = .ok (.iinc 3 1, 3) := by decide +kernel
theorem dX3_bound_83 : decode cX3_bound 83 = .ok (.goto (-79), 3) := by decide +kernel
theorem dX3_bound_86 : decode cX3_bound 86 = .ok (.iload_n 2, 1) := by decide +kernel
theorem dX3_bound_87 : decode cX3_bound 87 = .ok (.ireturn, 1) := by decide +kernel
theorem dX3_notes_0 : decode cX3_notes 0 = .ok (.iconst 4, 1) := by decide +kernel
theorem dX3_notes_1 : decode cX3_notes 1 = .ok (.aload_n 0, 1) := by decide +kernel
theorem dX3_notes_2 : decode cX3_notes 2 = .ok (.getfield 128, 3) := by decide +kernel
theorem dX3_notes_5 : decode cX3_notes 5 = .ok (.sipush 200, 3) := by decide +kernel
theorem dX3_notes_8 : decode cX3_notes 8 = .ok (.irem, 1) := by decide +kernel
theorem dX3_notes_9 : decode cX3_notes 9 = .ok (.imul, 1) := by decide +kernel
theorem dX3_notes_10 : decode cX3_notes 10 = .ok (.istore 4, 2) := by decide +kernel
theorem dX3_notes_12 : decode cX3_notes 12 = .ok (.aload_n 0, 1) := by decide +kernel
theorem dX3_notes_13 : decode cX3_notes 13 = .ok (.getfield 63, 3) := by decide +kernel
theorem dX3_notes_16 : decode cX3_notes 16 = .ok (.iload 4, 2) := by decide +kernel
theorem dX3_notes_18 : decode cX3_notes 18 = .ok (.iload_n 1, 1) := by decide +kernel
theorem dX3_notes_19 : decode cX3_notes 19 = .ok (.iastore, 1) := by decide +kernel
theorem dX3_notes_20 : decode cX3_notes 20 = .ok (.aload_n 0, 1) := by decide +kernel
theorem dX3_notes_21 : decode cX3_notes 21 = .ok (.getfield 63, 3) := by decide +kernel
theorem dX3_notes_24 : decode cX3_notes 24 = .ok (.iload 4, 2) := by decide +kernel
theorem dX3_notes_26 : decode cX3_notes 26 = .ok (.iconst 1, 1) := by decide +kernel
theorem dX3_notes_27 : decode cX3_notes 27 = .ok (.iadd, 1) := by decide +kernel
theorem dX3_notes_28 : decode cX3_notes 28 = .ok (.iload_n 2, 1) := by decide +kernel
theorem dX3_notes_29 : decode cX3_notes 29 = .ok (.iastore, 1) := by decide +kernel
theorem dX3_notes_30 : decode cX3_notes 30 = .ok (.aload_n 0, 1) := by decide +kernel
theorem dX3_notes_31 : decode cX3_notes 31 = .ok (.getfield 63, 3) := by decide +kernel
theorem dX3_notes_34 : decode cX3_notes 34 = .ok (.iload 4, 2) := by decide +kernel
theorem dX3_notes_36 : decode cX3_notes 36 = .ok (.iconst 2, 1) := by decide +kernel
theorem dX3_notes_37 : decode cX3_notes 37 = .ok (.iadd, 1) := by decide +kernel
theorem dX3_notes_38 : decode cX3_notes 38 = .ok (.iload_n 3, 1) := by decide +kernel
theorem dX3_notes_39 : decode cX3_notes 39 = .ok (.iastore, 1) := by decide +kernel
theorem dX3_notes_40 : decode cX3_notes 40 = .ok (.aload_n 0, 1) := by decide +kernel
theorem dX3_notes_41 : decode cX3_notes 41 = .ok (.getfield 63, 3) := by decide +kernel
theorem dX3_notes_44 : decode cX3_notes 44 = .ok (.iload 4, 2) := by decide +kernel
theorem dX3_notes_46 : decode cX3_notes 46 = .ok (.iconst 3, 1) := by decide +kernel
theorem dX3_notes_47 : decode cX3_notes 47 = .ok (.iadd, 1) := by decide +kernel
theorem dX3_notes_48 : decode cX3_notes 48 = .ok (.aload_n 0, 1) := by decide +kernel
theorem dX3_notes_49 : decode cX3_notes 49 = .ok (.getfield 131, 3) := by decide +kernel
theorem dX3_notes_52 : decode cX3_notes 52 = .ok (.iastore, 1) := by decide +kernel
theorem dX3_notes_53 : decode cX3_notes 53 = .ok (.aload_n 0, 1) := by decide +kernel
theorem dX3_notes_54 : decode cX3_notes 54 = .ok (.dup, 1) := by decide +kernel
theorem dX3_notes_55 : decode cX3_notes 55 = .ok (.getfield 128, 3) := by decide +kernel
theorem dX3_notes_58 : decode cX3_notes 58 = .ok (.iconst 1, 1) := by decide +kernel
theorem dX3_notes_59 : decode cX3_notes 59 = .ok (.iadd, 1) := by decide +kernel
theorem dX3_notes_60 : decode cX3_notes 60 = .ok (.putfield 128, 3) := by decide +kernel
theorem dX3_notes_63 : decode cX3_notes 63 = .ok (.return_, 1) := by decide +kernel
theorem dX3_points_0 : decode cX3_points 0 = .ok (.iconst 0, 1) := by decide +kernel
theorem dX3_points_1 : decode cX3_points 1 = .ok (.istore_n 1, 1) := by decide +kernel
theorem dX3_points_2 : decode cX3_points 2 = .ok (.iload_n 1, 1) := by decide +kernel
theorem dX3_points_3 : decode cX3_points 3 = .ok (.bipush 7, 2) := by decide +kernel
theorem dX3_points_5 : decode cX3_points 5 = .ok (.if_icmp .ge 69, 3) := by decide +kernel
theorem dX3_points_8 : decode cX3_points 8 = .ok (.aload_n 0, 1) := by decide +kernel
theorem dX3_points_9 : decode cX3_points 9 = .ok (.getfield 50, 3) := by decide +kernel
theorem dX3_points_12 : decode cX3_points 12 = .ok (.iload_n 1, 1) := by decide +kernel
theorem dX3_points_13 : decode cX3_points 13 = .ok (.iaload, 1) := by decide +kernel
theorem dX3_points_14 : decode cX3_points 14 = .ok (.ifCond .le 54, 3) := by decide +kernel
theorem dX3_points_17 : decode cX3_points 17 = .ok (.aload_n 0, 1) := by decide +kernel
theorem dX3_points_18 : decode cX3_points 18 = .ok (.getfield 53, 3) := by decide +kernel
theorem dX3_points_21 : decode cX3_points 21 = .ok (.iload_n 1, 1) := by decide +kernel
theorem dX3_points_22 : decode cX3_points 22 = .ok (.baload, 1) := by decide +kernel
theorem dX3_points_23 : decode cX3_points 23 = .ok (.ifCond .ne 45, 3) := by decide +kernel
theorem dX3_points_26 : decode cX3_points 26 = .ok (.aload_n 0, 1) := by decide +kernel
theorem dX3_points_27 : decode cX3_points 27 = .ok (.getfield 50, 3) := by decide +kernel
theorem dX3_points_30 : decode cX3_points 30 = .ok (.iload_n 1, 1) := by decide +kernel
theorem dX3_points_31 : decode cX3_points 31 = .ok (.dup2, 1) := by decide +kernel
theorem dX3_points_32 : decode cX3_points 32 = .ok (.iaload, 1) := by decide +kernel
theorem dX3_points_33 : decode cX3_points 33 = .ok (.iconst 1, 1) := by decide +kernel
theorem dX3_points_34 : decode cX3_points 34 = .ok (.isub, 1) := by decide +kernel
theorem dX3_points_35 : decode cX3_points 35 = .ok (.iastore, 1) := by decide +kernel
theorem dX3_points_36 : decode cX3_points 36 = .ok (.aload_n 0, 1) := by decide +kernel
theorem dX3_points_37 : decode cX3_points 37 = .ok (.getfield 47, 3) := by decide +kernel
theorem dX3_points_40 : decode cX3_points 40 = .ok (.iload_n 1, 1) := by decide +kernel
theorem dX3_points_41 : decode cX3_points 41 = .ok (.aload_n 0, 1) := by decide +kernel
theorem dX3_points_42 : decode cX3_points 42 = .ok (.getfield 50, 3) := by decide +kernel
theorem dX3_points_45 : decode cX3_points 45 = .ok (.iload_n 1, 1) := by decide +kernel
theorem dX3_points_46 : decode cX3_points 46 = .ok (.iaload, 1) := by decide +kernel
theorem dX3_points_47 : decode cX3_points 47 = .ok (.ifCond .ne 14, 3) := by decide +kernel
theorem dX3_points_50 : decode cX3_points 50 = .ok (.iconst 1, 1) := by decide +kernel
theorem dX3_points_51 : decode cX3_points 51 = .ok (.aload_n 0, 1) := by decide +kernel
theorem dX3_points_52 : decode cX3_points 52 = .ok (.getfield 47, 3) := by decide +kernel
theorem dX3_points_55 : decode cX3_points 55 = .ok (.iload_n 1, 1) := by decide +kernel
theorem dX3_points_56 : decode cX3_points 56 = .ok (.iaload, 1) := by decide +kernel
theorem dX3_points_57 : decode cX3_points 57 = .ok (.isub, 1) := by decide +kernel
theorem dX3_points_58 : decode cX3_points 58 = .ok (.goto 9, 3) := by decide +kernel
theorem dX3_points_61 : decode cX3_points 61 = .ok (.aload_n 0, 1) := by decide +kernel
theorem dX3_points_62 : decode cX3_points 62 = .ok (.getfield 47, 3) := by decide +kernel
theorem dX3_points_65 : decode cX3_points 65 = .ok (.iload_n 1, 1) := by decide +kernel
theorem dX3_points_66 : decode cX3_points 66 = .ok (.iaload, 1) := by decide +kernel
theorem dX3_points_67 : decode cX3_points 67 = .ok (.iastore, 1) := by decide +kernel
theorem dX3_points_68 : decode cX3_points 68 = .ok (.iinc 1 1, 3) := by decide +kernel
theorem dX3_points_71 : decode cX3_points 71 = .ok (.goto (-69), 3) := by decide +kernel
theorem dX3_points_74 : decode cX3_points 74 = .ok (.iconst 0, 1) := by decide +kernel
theorem dX3_points_75 : decode cX3_points 75 = .ok (.istore_n 1, 1) := by decide +kernel
theorem dX3_points_76 : decode cX3_points 76 = .ok (.iload_n 1, 1) := by decide +kernel
theorem dX3_points_77 : decode cX3_points 77 = .ok (.bipush 7, 2) := by decide +kernel
theorem dX3_points_79 : decode cX3_points 79 = .ok (.if_icmp .ge 80, 3) := by decide +kernel
theorem dX3_points_82 : decode cX3_points 82 = .ok (.aload_n 0, 1) := by decide +kernel
theorem dX3_points_83 : decode cX3_points 83 = .ok (.getfield 50, 3) := by decide +kernel
theorem dX3_points_86 : decode cX3_points 86 = .ok (.iload_n 1, 1) := by decide +kernel
theorem dX3_points_87 : decode cX3_points 87 = .ok (.iaload, 1) := by decide +kernel
theorem dX3_points_88 : decode cX3_points 88 = .ok (.ifCond .gt 65, 3) := by decide +kernel
theorem dX3_points_91 : decode cX3_points 91 = .ok (.aload_n 0, 1) := by decide +kernel
theorem dX3_points_92 : decode cX3_points 92 = .ok (.getfield 53, 3) := by decide +kernel
theorem dX3_points_95 : decode cX3_points 95 = .ok (.iload_n 1, 1) := by decide +kernel
theorem dX3_points_96 : decode cX3_points 96 = .ok (.baload, 1) := by decide +kernel
theorem dX3_points_97 : decode cX3_points 97 = .ok (.ifCond .ne 56, 3) := by decide +kernel
theorem dX3_points_100 : decode cX3_points 100 = .ok (.aload_n 0, 1) := by decide +kernel
theorem dX3_points_101 : decode cX3_points 101 = .ok (.iload_n 1, 1) := by decide +kernel
theorem dX3_points_102 : decode cX3_points 102 = .ok (.invokevirtual 134, 3) := by decide +kernel
theorem dX3_points_105 : decode cX3_points 105 = .ok (.ifCond .eq 6, 3) := by decide +kernel
theorem dX3_points_108 : decode cX3_points 108 = .ok (.goto 45, 3) := by decide +kernel
theorem dX3_points_111 : decode cX3_points 111 = .ok (.aload_n 0, 1) := by decide +kernel
theorem dX3_points_112 : decode cX3_points 112 = .ok (.iload_n 1, 1) := by decide +kernel
theorem dX3_points_113 : decode cX3_points 113 = .ok (.invokevirtual 137, 3) := by decide +kernel
theorem dX3_points_116 : decode cX3_points 116 = .ok (.istore_n 2, 1) := by decide +kernel
theorem dX3_points_117 : decode cX3_points 117 = .ok (.iload_n 2, 1) := by decide +kernel
theorem dX3_points_118 : decode cX3_points 118 = .ok (.iconst (-1), 1) := by decide +kernel
theorem dX3_points_119 : decode cX3_points 119 = .ok (.if_icmp .eq 34, 3) := by decide +kernel
theorem dX3_points_122 : decode cX3_points 122 = .ok (.aload_n 0, 1) := by decide +kernel
theorem dX3_points_123 : decode cX3_points 123 = .ok (.getfield 23, 3) := by decide +kernel
theorem dX3_points_126 : decode cX3_points 126 = .ok (.iload_n 2, 1) := by decide +kernel
theorem dX3_points_127 : decode cX3_points 127 = .ok (.iaload, 1) := by decide +kernel
theorem dX3_points_128 : decode cX3_points 128 = .ok (.iconst 2, 1) := by decide +kernel
theorem dX3_points_129 : decode cX3_points 129 = .ok (.iload_n 1, 1) := by decide +kernel
theorem dX3_points_130 : decode cX3_points 130 = .ok (.invokestatic 101, 3) := by decide +kernel
theorem dX3_points_133 : decode cX3_points 133 = .ok (.isub, 1) := by decide +kernel
theorem dX3_points_134 : decode cX3_points 134 = .ok (.ishr, 1) := by decide +kernel
theorem dX3_points_135 : decode cX3_points 135 = .ok (.iconst 1, 1) := by decide +kernel
theorem dX3_points_136 : decode cX3_points 136 = .ok (.iand, 1) := by decide +kernel
theorem dX3_points_137 : decode cX3_points 137 = .ok (.aload_n 0, 1) := by decide +kernel
theorem dX3_points_138 : decode cX3_points 138 = .ok (.getfield 47, 3) := by decide +kernel
theorem dX3_points_141 : decode cX3_points 141 = .ok (.iload_n 1, 1) := by decide +kernel
theorem dX3_points_142 : decode cX3_points 142 = .ok (.iaload, 1) := by decide +kernel
theorem dX3_points_143 : decode cX3_points 143 = .ok (.if_icmp .eq 10, 3) := by decide +kernel
theorem dX3_points_146 : decode cX3_points 146 = .ok (.aload_n 0, 1) := by decide +kernel
theorem dX3_points_147 : decode cX3_points 147 = .ok (.getfield 50, 3) := by decide +kernel
theorem dX3_points_150 : decode cX3_points 150 = .ok (.iload_n 1, 1) := by decide +kernel
theorem dX3_points_151 : decode cX3_points 151 = .ok (.iconst 4, 1) := by decide +kernel
theorem dX3_points_152 : decode cX3_points 152 = .ok (.iastore, 1) := by decide +kernel
theorem dX3_points_153 : decode cX3_points 153 = .ok (.iinc 1 1, 3) := by decide +kernel
theorem dX3_points_156 : decode cX3_points 156 = .ok (.goto (-80), 3) := by decide +kernel
theorem dX3_points_159 : decode cX3_points 159 = .ok (.return_, 1) := by decide +kernel
theorem dX3_brakes_0 : decode cX3_brakes 0 = .ok (.iload_n 1, 1) := by decide +kernel
theorem dX3_brakes_1 : decode cX3_brakes 1 = .ok (.ifCond .ne 9, 3) := by decide +kernel
theorem dX3_brakes_4 : decode cX3_brakes 4 = .ok (.ldc2_w 140, 3) := by decide +kernel
theorem dX3_brakes_7 : decode cX3_brakes 7 = .ok (.goto 6, 3) := by decide +kernel
theorem dX3_brakes_10 : decode cX3_brakes 10 = .ok (.ldc2_w 142, 3) := by decide +kernel
theorem dX3_brakes_13 : decode cX3_brakes 13 = .ok (.dstore_n 3, 1) := by decide +kernel
theorem dX3_brakes_14 : decode cX3_brakes 14 = .ok (.iload_n 1, 1) := by decide +kernel
theorem dX3_brakes_15 : decode cX3_brakes 15 = .ok (.ifCond .ne 9, 3) := by decide +kernel
theorem dX3_brakes_18 : decode cX3_brakes 18 = .ok (.ldc2_w 144, 3) := by decide +kernel
theorem dX3_brakes_21 : decode cX3_brakes 21 = .ok (.goto 6, 3) := by decide +kernel
theorem dX3_brakes_24 : decode cX3_brakes 24 = .ok (.ldc2_w 146, 3) := by decide +kernel
theorem dX3_brakes_27 : decode cX3_brakes 27 = .ok (.dstore 5, 2) := by decide +kernel
theorem dX3_brakes_29 : decode cX3_brakes 29 = .ok (.aload_n 0, 1) := by decide +kernel
theorem dX3_brakes_30 : decode cX3_brakes 30 = .ok (.getfield 26, 3) := by decide +kernel
theorem dX3_brakes_33 : decode cX3_brakes 33 = .ok (.iload_n 2, 1) := by decide +kernel
theorem dX3_brakes_34 : decode cX3_brakes 34 = .ok (.daload, 1) := by decide +kernel
theorem dX3_brakes_35 : decode cX3_brakes 35 = .ok (.dload_n 3, 1) := by decide +kernel
theorem dX3_brakes_36 : decode cX3_brakes 36 = .ok (.dcmp .g, 1) := by decide +kernel
theorem dX3_brakes_37 : decode cX3_brakes 37 = .ok (.ifCond .lt 30, 3) := by decide +kernel
theorem dX3_brakes_40 : decode cX3_brakes 40 = .ok (.aload_n 0, 1) := by decide +kernel
theorem dX3_brakes_41 : decode cX3_brakes 41 = .ok (.iload_n 2, 1) := by decide +kernel
theorem dX3_brakes_42 : decode cX3_brakes 42 = .ok (.invokevirtual 120, 3) := by decide +kernel
theorem dX3_brakes_45 : decode cX3_brakes 45 = .ok (.dload 5, 2) := by decide +kernel
theorem dX3_brakes_47 : decode cX3_brakes 47 = .ok (.dcmp .l, 1) := by decide +kernel
theorem dX3_brakes_48 : decode cX3_brakes 48 = .ok (.ifCond .gt 19, 3) := by decide +kernel
theorem dX3_brakes_51 : decode cX3_brakes 51 = .ok (.aload_n 0, 1) := by decide +kernel
theorem dX3_brakes_52 : decode cX3_brakes 52 = .ok (.getfield 29, 3) := by decide +kernel
theorem dX3_brakes_55 : decode cX3_brakes 55 = .ok (.iload_n 2, 1) := by decide +kernel
theorem dX3_brakes_56 : decode cX3_brakes 56 = .ok (.daload, 1) := by decide +kernel
theorem dX3_brakes_57 : decode cX3_brakes 57 = .ok (.aload_n 0, 1) := by decide +kernel
theorem dX3_brakes_58 : decode cX3_brakes 58 = .ok (.getfield 41, 3) := by decide +kernel
theorem dX3_brakes_61 : decode cX3_brakes 61 = .ok (.iload_n 1, 1) := by decide +kernel
theorem dX3_brakes_62 : decode cX3_brakes 62 = .ok (.daload, 1) := by decide +kernel
theorem dX3_brakes_63 : decode cX3_brakes 63 = .ok (.dcmp .g, 1) := by decide +kernel
theorem dX3_brakes_64 : decode cX3_brakes 64 = .ok (.ifCond .gt 5, 3) := by decide +kernel
theorem dX3_brakes_67 : decode cX3_brakes 67 = .ok (.dconst 0, 1) := by decide +kernel
theorem dX3_brakes_68 : decode cX3_brakes 68 = .ok (.dreturn, 1) := by decide +kernel
theorem dX3_brakes_69 : decode cX3_brakes 69 = .ok (.aload_n 0, 1) := by decide +kernel
theorem dX3_brakes_70 : decode cX3_brakes 70 = .ok (.getfield 29, 3) := by decide +kernel
theorem dX3_brakes_73 : decode cX3_brakes 73 = .ok (.iload_n 2, 1) := by decide +kernel
theorem dX3_brakes_74 : decode cX3_brakes 74 = .ok (.daload, 1) := by decide +kernel
theorem dX3_brakes_75 : decode cX3_brakes 75 = .ok (.aload_n 0, 1) := by decide +kernel
theorem dX3_brakes_76 : decode cX3_brakes 76 = .ok (.getfield 41, 3) := by decide +kernel
theorem dX3_brakes_79 : decode cX3_brakes 79 = .ok (.iload_n 1, 1) := by decide +kernel
theorem dX3_brakes_80 : decode cX3_brakes 80 = .ok (.daload, 1) := by decide +kernel
theorem dX3_brakes_81 : decode cX3_brakes 81 = .ok (.dsub, 1) := by decide +kernel
theorem dX3_brakes_82 : decode cX3_brakes 82 = .ok (.ldc2_w 148, 3) := by decide +kernel
theorem dX3_brakes_85 : decode cX3_brakes 85 = .ok (.dmul, 1) := by decide +kernel
theorem dX3_brakes_86 : decode cX3_brakes 86 = .ok (.d2i, 1) := by decide +kernel
theorem dX3_brakes_87 : decode cX3_brakes 87 = .ok (.iconst 1, 1) := by decide +kernel
theorem dX3_brakes_88 : decode cX3_brakes 88 = .ok (.iadd, 1) := by decide +kernel
theorem dX3_brakes_89 : decode cX3_brakes 89 = .ok (.istore 7, 2) := by decide +kernel
theorem dX3_brakes_91 : decode cX3_brakes 91 = .ok (.ldc2_w 150, 3) := by decide +kernel
theorem dX3_brakes_94 : decode cX3_brakes 94 = .ok (.iload 7, 2) := by decide +kernel
theorem dX3_brakes_96 : decode cX3_brakes 96 = .ok (.bipush 15, 2) := by decide +kernel
theorem dX3_brakes_98 : decode cX3_brakes 98 = .ok (.if_icmp .le 8, 3) := by decide +kernel
theorem dX3_brakes_101 : decode cX3_brakes 101 = .ok (.bipush 15, 2) := by decide +kernel
theorem dX3_brakes_103 : decode cX3_brakes 103 = .ok (.goto 5, 3) := by decide +kernel
theorem dX3_brakes_106 : decode cX3_brakes 106 = .ok (.iload 7, 2) := by decide +kernel
theorem dX3_brakes_108 : decode cX3_brakes 108 = .ok (.i2d, 1) := by decide +kernel
theorem dX3_brakes_109 : decode cX3_brakes 109 = .ok (.dmul, 1) := by decide +kernel
theorem dX3_brakes_110 : decode cX3_brakes 110 = .ok (.dreturn, 1) := by decide +kernel
theorem dX3_rolls_0 : decode cX3_rolls 0 = .ok (.aload_n 0, 1) := by decide +kernel
theorem dX3_rolls_1 : decode cX3_rolls 1 = .ok (.getfield 26, 3) := by decide +kernel
theorem dX3_rolls_4 : decode cX3_rolls 4 = .ok (.iload_n 1, 1) := by decide +kernel
theorem dX3_rolls_5 : decode cX3_rolls 5 = .ok (.daload, 1) := by decide +kernel
theorem dX3_rolls_6 : decode cX3_rolls 6 = .ok (.ldc2_w 152, 3) := by decide +kernel
theorem dX3_rolls_9 : decode cX3_rolls 9 = .ok (.dcmp .g, 1) := by decide +kernel
theorem dX3_rolls_10 : decode cX3_rolls 10 = .ok (.ifCond .ge 9, 3) := by decide +kernel
theorem dX3_rolls_13 : decode cX3_rolls 13 = .ok (.ldc2_w 154, 3) := by decide +kernel
theorem dX3_rolls_16 : decode cX3_rolls 16 = .ok (.goto 25, 3) := by decide +kernel
theorem dX3_rolls_19 : decode cX3_rolls 19 = .ok (.aload_n 0, 1) := by decide +kernel
theorem dX3_rolls_20 : decode cX3_rolls 20 = .ok (.getfield 26, 3) := by decide +kernel
theorem dX3_rolls_23 : decode cX3_rolls 23 = .ok (.iload_n 1, 1) := by decide +kernel
theorem dX3_rolls_24 : decode cX3_rolls 24 = .ok (.daload, 1) := by decide +kernel
theorem dX3_rolls_25 : decode cX3_rolls 25 = .ok (.ldc2_w 156, 3) := by decide +kernel
theorem dX3_rolls_28 : decode cX3_rolls 28 = .ok (.dcmp .g, 1) := by decide +kernel
theorem dX3_rolls_29 : decode cX3_rolls 29 = .ok (.ifCond .ge 9, 3) := by decide +kernel
theorem dX3_rolls_32 : decode cX3_rolls 32 = .ok (.ldc2_w 158, 3) := by decide +kernel
theorem dX3_rolls_35 : decode cX3_rolls 35 = .ok (.goto 6, 3) := by decide +kernel
theorem dX3_rolls_38 : decode cX3_rolls 38 = .ok (.ldc2_w 160, 3) := by decide +kernel
theorem dX3_rolls_41 : decode cX3_rolls 41 = .ok (.dstore_n 2, 1) := by decide +kernel
theorem dX3_rolls_42 : decode cX3_rolls 42 = .ok (.ldc2_w 162, 3) := by decide +kernel
theorem dX3_rolls_45 : decode cX3_rolls 45 = .ok (.dload_n 2, 1) := by decide +kernel
theorem dX3_rolls_46 : decode cX3_rolls 46 = .ok (.aload_n 0, 1) := by decide +kernel
theorem dX3_rolls_47 : decode cX3_rolls 47 = .ok (.getfield 19, 3) := by decide +kernel
theorem dX3_rolls_50 : decode cX3_rolls 50 = .ok (.iload_n 1, 1) := by decide +kernel
theorem dX3_rolls_51 : decode cX3_rolls 51 = .ok (.daload, 1) := by decide +kernel
theorem dX3_rolls_52 : decode cX3_rolls 52 = .ok (.ldc2_w 164, 3) := by decide +kernel
theorem dX3_rolls_55 : decode cX3_rolls 55 = .ok (.ddiv, 1) := by decide +kernel
theorem dX3_rolls_56 : decode cX3_rolls 56 = .ok (.dsub, 1) := by decide +kernel
theorem dX3_rolls_57 : decode cX3_rolls 57 = .ok (.dmul, 1) := by decide +kernel
theorem dX3_rolls_58 : decode cX3_rolls 58 = .ok (.dstore 4, 2) := by decide +kernel
theorem dX3_rolls_60 : decode cX3_rolls 60 = .ok (.dload 4, 2) := by decide +kernel
theorem dX3_rolls_62 : decode cX3_rolls 62 = .ok (.aload_n 0, 1) := by decide +kernel
theorem dX3_rolls_63 : decode cX3_rolls 63 = .ok (.iconst 0, 1) := by decide +kernel
theorem dX3_rolls_64 : decode cX3_rolls 64 = .ok (.iload_n 1, 1) := by decide +kernel
theorem dX3_rolls_65 : decode cX3_rolls 65 = .ok (.invokevirtual 166, 3) := by decide +kernel
theorem dX3_rolls_68 : decode cX3_rolls 68 = .ok (.dsub, 1) := by decide +kernel
theorem dX3_rolls_69 : decode cX3_rolls 69 = .ok (.dstore 4, 2) := by decide +kernel
theorem dX3_rolls_71 : decode cX3_rolls 71 = .ok (.aload_n 0, 1) := by decide +kernel
theorem dX3_rolls_72 : decode cX3_rolls 72 = .ok (.getfield 32, 3) := by decide +kernel
theorem dX3_rolls_75 : decode cX3_rolls 75 = .ok (.iload_n 1, 1) := by decide +kernel
theorem dX3_rolls_76 : decode cX3_rolls 76 = .ok (.iaload, 1) := by decide +kernel
theorem dX3_rolls_77 : decode cX3_rolls 77 = .ok (.iconst 3, 1) := by decide +kernel
theorem dX3_rolls_78 : decode cX3_rolls 78 = .ok (.if_icmp .ne 21, 3) := by decide +kernel
theorem dX3_rolls_81 : decode cX3_rolls 81 = .ok (.dload 4, 2) := by decide +kernel
theorem dX3_rolls_83 : decode cX3_rolls 83 = .ok (.aload_n 0, 1) := by decide +kernel
theorem dX3_rolls_84 : decode cX3_rolls 84 = .ok (.iconst 1, 1) := by decide +kernel
theorem dX3_rolls_85 : decode cX3_rolls 85 = .ok (.aload_n 0, 1) := by decide +kernel
theorem dX3_rolls_86 : decode cX3_rolls 86 = .ok (.getfield 35, 3) := by decide +kernel
theorem dX3_rolls_89 : decode cX3_rolls 89 = .ok (.iload_n 1, 1) := by decide +kernel
theorem dX3_rolls_90 : decode cX3_rolls 90 = .ok (.iaload, 1) := by decide +kernel
theorem dX3_rolls_91 : decode cX3_rolls 91 = .ok (.iadd, 1) := by decide +kernel
theorem dX3_rolls_92 : decode cX3_rolls 92 = .ok (.iload_n 1, 1) := by decide +kernel
theorem dX3_rolls_93 : decode cX3_rolls 93 = .ok (.invokevirtual 166, 3) := by decide +kernel
theorem dX3_rolls_96 : decode cX3_rolls 96 = .ok (.dsub, 1) := by decide +kernel
theorem dX3_rolls_97 : decode cX3_rolls 97 = .ok (.dstore 4, 2) := by decide +kernel
theorem dX3_rolls_99 : decode cX3_rolls 99 = .ok (.aload_n 0, 1) := by decide +kernel
theorem dX3_rolls_100 : decode cX3_rolls 100 = .ok (.getfield 29, 3) := by decide +kernel
theorem dX3_rolls_103 : decode cX3_rolls 103 = .ok (.iload_n 1, 1) := by decide +kernel
theorem dX3_rolls_104 : decode cX3_rolls 104 = .ok (.daload, 1) := by decide +kernel
theorem dX3_rolls_105 : decode cX3_rolls 105 = .ok (.dload 4, 2) := by decide +kernel
theorem dX3_rolls_107 : decode cX3_rolls 107 = .ok (.ldc2_w 170, 3) := by decide +kernel
theorem dX3_rolls_110 : decode cX3_rolls 110 = .ok (.dmul, 1) := by decide +kernel
theorem dX3_rolls_111 : decode cX3_rolls 111 = .ok (.dadd, 1) := by decide +kernel
theorem dX3_rolls_112 : decode cX3_rolls 112 = .ok (.dstore 6, 2) := by decide +kernel
theorem dX3_rolls_114 : decode cX3_rolls 114 = .ok (.dload 6, 2) := by decide +kernel
theorem dX3_rolls_116 : decode cX3_rolls 116 = .ok (.dconst 0, 1) := by decide +kernel
theorem dX3_rolls_117 : decode cX3_rolls 117 = .ok (.dcmp .g, 1) := by decide +kernel
theorem dX3_rolls_118 : decode cX3_rolls 118 = .ok (.ifCond .ge 7, 3) := by decide +kernel
theorem dX3_rolls_121 : decode cX3_rolls 121 = .ok (.dconst 0, 1) := by decide +kernel
theorem dX3_rolls_122 : decode cX3_rolls 122 = .ok (.goto 5, 3) := by decide +kernel
theorem dX3_rolls_125 : decode cX3_rolls 125 = .ok (.dload 6, 2) := by decide +kernel
theorem dX3_rolls_127 : decode cX3_rolls 127 = .ok (.dstore 6, 2) := by decide +kernel
theorem dX3_rolls_129 : decode cX3_rolls 129 = .ok (.aload_n 0, 1) := by decide +kernel
theorem dX3_rolls_130 : decode cX3_rolls 130 = .ok (.getfield 29, 3) := by decide +kernel
theorem dX3_rolls_133 : decode cX3_rolls 133 = .ok (.iload_n 1, 1) := by decide +kernel
theorem dX3_rolls_134 : decode cX3_rolls 134 = .ok (.dload 6, 2) := by decide +kernel
theorem dX3_rolls_136 : decode cX3_rolls 136 = .ok (.dastore, 1) := by decide +kernel
theorem dX3_rolls_137 : decode cX3_rolls 137 = .ok (.aload_n 0, 1) := by decide +kernel
theorem dX3_rolls_138 : decode cX3_rolls 138 = .ok (.getfield 26, 3) := by decide +kernel
theorem dX3_rolls_141 : decode cX3_rolls 141 = .ok (.iload_n 1, 1) := by decide +kernel
theorem dX3_rolls_142 : decode cX3_rolls 142 = .ok (.aload_n 0, 1) := by decide +kernel
theorem dX3_rolls_143 : decode cX3_rolls 143 = .ok (.getfield 26, 3) := by decide +kernel
theorem dX3_rolls_146 : decode cX3_rolls 146 = .ok (.iload_n 1, 1) := by decide +kernel
theorem dX3_rolls_147 : decode cX3_rolls 147 = .ok (.daload, 1) := by decide +kernel
theorem dX3_rolls_148 : decode cX3_rolls 148 = .ok (.dload 6, 2) := by decide +kernel
theorem dX3_rolls_150 : decode cX3_rolls 150 = .ok (.ldc2_w 170, 3) := by decide +kernel
theorem dX3_rolls_153 : decode cX3_rolls 153 = .ok (.dmul, 1) := by decide +kernel
theorem dX3_rolls_154 : decode cX3_rolls 154 = .ok (.dadd, 1) := by decide +kernel
theorem dX3_rolls_155 : decode cX3_rolls 155 = .ok (.dastore, 1) := by decide +kernel
theorem dX3_rolls_156 : decode cX3_rolls 156 = .ok (.aload_n 0, 1) := by decide +kernel
theorem dX3_rolls_157 : decode cX3_rolls 157 = .ok (.getfield 32, 3) := by decide +kernel
theorem dX3_rolls_160 : decode cX3_rolls 160 = .ok (.iload_n 1, 1) := by decide +kernel
theorem dX3_rolls_161 : decode cX3_rolls 161 = .ok (.iaload, 1) := by decide +kernel
theorem dX3_rolls_162 : decode cX3_rolls 162 = .ok (.iconst 3, 1) := by decide +kernel
theorem dX3_rolls_163 : decode cX3_rolls 163 = .ok (.if_icmp .ge 134, 3) := by decide +kernel
theorem dX3_rolls_166 : decode cX3_rolls 166 = .ok (.aload_n 0, 1) := by decide +kernel
theorem dX3_rolls_167 : decode cX3_rolls 167 = .ok (.getfield 26, 3) := by decide +kernel
theorem dX3_rolls_170 : decode cX3_rolls 170 = .ok (.iload_n 1, 1) := by decide +kernel
theorem dX3_rolls_171 : decode cX3_rolls 171 = .ok (.daload, 1) := by decide +kernel
theorem dX3_rolls_172 : decode cX3_rolls 172 = .ok (.ldc2_w 97, 3) := by decide +kernel
theorem dX3_rolls_175 : decode cX3_rolls 175 = .ok (.ldc2_w 99, 3) := by decide +kernel
theorem dX3_rolls_178 : decode cX3_rolls 178 = .ok (.aload_n 0, 1) := by decide +kernel
theorem dX3_rolls_179 : decode cX3_rolls 179 = .ok (.getfield 32, 3) := by decide +kernel
theorem dX3_rolls_182 : decode cX3_rolls 182 = .ok (.iload_n 1, 1) := by decide +kernel
theorem dX3_rolls_183 : decode cX3_rolls 183 = .ok (.iaload, 1) := by decide +kernel
theorem dX3_rolls_184 : decode cX3_rolls 184 = .ok (.i2d, 1) := by decide +kernel
theorem dX3_rolls_185 : decode cX3_rolls 185 = .ok (.dmul, 1) := by decide +kernel
theorem dX3_rolls_186 : decode cX3_rolls 186 = .ok (.dadd, 1) := by decide +kernel
theorem dX3_rolls_187 : decode cX3_rolls 187 = .ok (.dcmp .l, 1) := by decide +kernel
theorem dX3_rolls_188 : decode cX3_rolls 188 = .ok (.ifCond .lt 109, 3) := by decide +kernel
theorem dX3_rolls_191 : decode cX3_rolls 191 = .ok (.aload_n 0, 1) := by decide +kernel
theorem dX3_rolls_192 : decode cX3_rolls 192 = .ok (.getfield 35, 3) := by decide +kernel
theorem dX3_rolls_195 : decode cX3_rolls 195 = .ok (.iload_n 1, 1) := by decide +kernel
theorem dX3_rolls_196 : decode cX3_rolls 196 = .ok (.iaload, 1) := by decide +kernel
theorem dX3_rolls_197 : decode cX3_rolls 197 = .ok (.iconst 1, 1) := by decide +kernel
theorem dX3_rolls_198 : decode cX3_rolls 198 = .ok (.aload_n 0, 1) := by decide +kernel
theorem dX3_rolls_199 : decode cX3_rolls 199 = .ok (.getfield 32, 3) := by decide +kernel
theorem dX3_rolls_202 : decode cX3_rolls 202 = .ok (.iload_n 1, 1) := by decide +kernel
theorem dX3_rolls_203 : decode cX3_rolls 203 = .ok (.iaload, 1) := by decide +kernel
theorem dX3_rolls_204 : decode cX3_rolls 204 = .ok (.ishl, 1) := by decide +kernel
theorem dX3_rolls_205 : decode cX3_rolls 205 = .ok (.iadd, 1) := by decide +kernel
theorem dX3_rolls_206 : decode cX3_rolls 206 = .ok (.iconst 1, 1) := by decide +kernel
theorem dX3_rolls_207 : decode cX3_rolls 207 = .ok (.isub, 1) := by decide +kernel
theorem dX3_rolls_208 : decode cX3_rolls 208 = .ok (.istore 8, 2) := by decide +kernel
theorem dX3_rolls_210 : decode cX3_rolls 210 = .ok (.aload_n 0, 1) := by decide +kernel
theorem dX3_rolls_211 : decode cX3_rolls 211 = .ok (.getfield 47, 3) := by decide +kernel
theorem dX3_rolls_214 : decode cX3_rolls 214 = .ok (.iload 8, 2) := by decide +kernel
theorem dX3_rolls_216 : decode cX3_rolls 216 = .ok (.iaload, 1) := by decide +kernel
theorem dX3_rolls_217 : decode cX3_rolls 217 = .ok (.istore 9, 2) := by decide +kernel
theorem dX3_rolls_219 : decode cX3_rolls 219 = .ok (.iload 8, 2) := by decide +kernel
theorem dX3_rolls_221 : decode cX3_rolls 221 = .ok (.aload_n 0, 1) := by decide +kernel
theorem dX3_rolls_222 : decode cX3_rolls 222 = .ok (.getfield 23, 3) := by decide +kernel
theorem dX3_rolls_225 : decode cX3_rolls 225 = .ok (.iload_n 1, 1) := by decide +kernel
theorem dX3_rolls_226 : decode cX3_rolls 226 = .ok (.iaload, 1) := by decide +kernel
theorem dX3_rolls_227 : decode cX3_rolls 227 = .ok (.invokestatic 125, 3) := by decide +kernel
theorem dX3_rolls_230 : decode cX3_rolls 230 = .ok (.istore 10, 2) := by decide +kernel
theorem dX3_rolls_232 : decode cX3_rolls 232 = .ok (.aload_n 0, 1) := by decide +kernel
theorem dX3_rolls_233 : decode cX3_rolls 233 = .ok (.getfield 35, 3) := by decide +kernel
theorem dX3_rolls_236 : decode cX3_rolls 236 = .ok (.iload_n 1, 1) := by decide +kernel
theorem dX3_rolls_237 : decode cX3_rolls 237 = .ok (.iconst 2, 1) := by decide +kernel
theorem dX3_rolls_238 : decode cX3_rolls 238 = .ok (.aload_n 0, 1) := by decide +kernel
theorem dX3_rolls_239 : decode cX3_rolls 239 = .ok (.getfield 35, 3) := by decide +kernel
theorem dX3_rolls_242 : decode cX3_rolls 242 = .ok (.iload_n 1, 1) := by decide +kernel
theorem dX3_rolls_243 : decode cX3_rolls 243 = .ok (.iaload, 1) := by decide +kernel
theorem dX3_rolls_244 : decode cX3_rolls 244 = .ok (.imul, 1) := by decide +kernel
theorem dX3_rolls_245 : decode cX3_rolls 245 = .ok (.iload 9, 2) := by decide +kernel
theorem dX3_rolls_247 : decode cX3_rolls 247 = .ok (.iadd, 1) := by decide +kernel
theorem dX3_rolls_248 : decode cX3_rolls 248 = .ok (.iastore, 1) := by decide +kernel
theorem dX3_rolls_249 : decode cX3_rolls 249 = .ok (.aload_n 0, 1) := by decide +kernel
theorem dX3_rolls_250 : decode cX3_rolls 250 = .ok (.getfield 32, 3) := by decide +kernel
theorem dX3_rolls_253 : decode cX3_rolls 253 = .ok (.iload_n 1, 1) := by decide +kernel
theorem dX3_rolls_254 : decode cX3_rolls 254 = .ok (.dup2, 1) := by decide +kernel
theorem dX3_rolls_255 : decode cX3_rolls 255 = .ok (.iaload, 1) := by decide +kernel
theorem dX3_rolls_256 : decode cX3_rolls 256 = .ok (.iconst 1, 1) := by decide +kernel
theorem dX3_rolls_257 : decode cX3_rolls 257 = .ok (.iadd, 1) := by decide +kernel
theorem dX3_rolls_258 : decode cX3_rolls 258 = .ok (.iastore, 1) := by decide +kernel
theorem dX3_rolls_259 : decode cX3_rolls 259 = .ok (.iload 10, 2) := by decide +kernel
theorem dX3_rolls_261 : decode cX3_rolls 261 = .ok (.ifCond .eq 33, 3) := by decide +kernel
theorem dX3_rolls_264 : decode cX3_rolls 264 = .ok (.aload_n 0, 1) := by decide +kernel
theorem dX3_rolls_265 : decode cX3_rolls 265 = .ok (.getfield 23, 3) := by decide +kernel
theorem dX3_rolls_268 : decode cX3_rolls 268 = .ok (.iload_n 1, 1) := by decide +kernel
theorem dX3_rolls_269 : decode cX3_rolls 269 = .ok (.iaload, 1) := by decide +kernel
theorem dX3_rolls_270 : decode cX3_rolls 270 = .ok (.iconst 3, 1) := by decide +kernel
theorem dX3_rolls_271 : decode cX3_rolls 271 = .ok (.aload_n 0, 1) := by decide +kernel
theorem dX3_rolls_272 : decode cX3_rolls 272 = .ok (.getfield 32, 3) := by decide +kernel
theorem dX3_rolls_275 : decode cX3_rolls 275 = .ok (.iload_n 1, 1) := by decide +kernel
theorem dX3_rolls_276 : decode cX3_rolls 276 = .ok (.iaload, 1) := by decide +kernel
theorem dX3_rolls_277 : decode cX3_rolls 277 = .ok (.isub, 1) := by decide +kernel
theorem dX3_rolls_278 : decode cX3_rolls 278 = .ok (.ishr, 1) := by decide +kernel
theorem dX3_rolls_279 : decode cX3_rolls 279 = .ok (.iconst 1, 1) := by decide +kernel
theorem dX3_rolls_280 : decode cX3_rolls 280 = .ok (.iand, 1) := by decide +kernel
theorem dX3_rolls_281 : decode cX3_rolls 281 = .ok (.iload 9, 2) := by decide +kernel
theorem dX3_rolls_283 : decode cX3_rolls 283 = .ok (.if_icmp .eq 11, 3) := by decide +kernel
theorem dX3_rolls_286 : decode cX3_rolls 286 = .ok (.aload_n 0, 1) := by decide +kernel
theorem dX3_rolls_287 : decode cX3_rolls 287 = .ok (.iconst 0, 1) := by decide +kernel
theorem dX3_rolls_288 : decode cX3_rolls 288 = .ok (.iload_n 1, 1) := by decide +kernel
theorem dX3_rolls_289 : decode cX3_rolls 289 = .ok (.iload 8, 2) := by decide +kernel
theorem dX3_rolls_291 : decode cX3_rolls 291 = .ok (.invokevirtual 172, 3) := by decide +kernel
theorem dX3_rolls_294 : decode cX3_rolls 294 = .ok (.goto (-138), 3) := by decide +kernel
theorem dX3_rolls_297 : decode cX3_rolls 297 = .ok (.return_, 1) := by decide +kernel
theorem dX3_ahead_0 : decode cX3_ahead 0 = .ok (.iload_n 1, 1) := by decide +kernel
theorem dX3_ahead_1 : decode cX3_ahead 1 = .ok (.iconst 1, 1) := by decide +kernel
theorem dX3_ahead_2 : decode cX3_ahead 2 = .ok (.isub, 1) := by decide +kernel
theorem dX3_ahead_3 : decode cX3_ahead 3 = .ok (.istore_n 2, 1) := by decide +kernel
theorem dX3_ahead_4 : decode cX3_ahead 4 = .ok (.iload_n 2, 1) := by decide +kernel
theorem dX3_ahead_5 : decode cX3_ahead 5 = .ok (.ifCond .lt 85, 3) := by decide +kernel
theorem dX3_ahead_8 : decode cX3_ahead 8 = .ok (.aload_n 0, 1) := by decide +kernel
theorem dX3_ahead_9 : decode cX3_ahead 9 = .ok (.getfield 32, 3) := by decide +kernel
theorem dX3_ahead_12 : decode cX3_ahead 12 = .ok (.iload_n 2, 1) := by decide +kernel
theorem dX3_ahead_13 : decode cX3_ahead 13 = .ok (.iaload, 1) := by decide +kernel
theorem dX3_ahead_14 : decode cX3_ahead 14 = .ok (.aload_n 0, 1) := by decide +kernel
theorem dX3_ahead_15 : decode cX3_ahead 15 = .ok (.getfield 32, 3) := by decide +kernel
theorem dX3_ahead_18 : decode cX3_ahead 18 = .ok (.iload_n 1, 1) := by decide +kernel
theorem dX3_ahead_19 : decode cX3_ahead 19 = .ok (.iaload, 1) := by decide +kernel
theorem dX3_ahead_20 : decode cX3_ahead 20 = .ok (.if_icmp .ge 12, 3) := by decide +kernel
theorem dX3_ahead_23 : decode cX3_ahead 23 = .ok (.aload_n 0, 1) := by decide +kernel
theorem dX3_ahead_24 : decode cX3_ahead 24 = .ok (.getfield 32, 3) := by decide +kernel
theorem dX3_ahead_27 : decode cX3_ahead 27 = .ok (.iload_n 2, 1) := by decide +kernel
theorem dX3_ahead_28 : decode cX3_ahead 28 = .ok (.iaload, 1) := by decide +kernel
theorem dX3_ahead_29 : decode cX3_ahead 29 = .ok (.goto 9, 3) := by decide +kernel
theorem dX3_ahead_32 : decode cX3_ahead 32 = .ok (.aload_n 0, 1) := by decide +kernel
theorem dX3_ahead_33 : decode cX3_ahead 33 = .ok (.getfield 32, 3) := by decide +kernel
theorem dX3_ahead_36 : decode cX3_ahead 36 = .ok (.iload_n 1, 1) := by decide +kernel
theorem dX3_ahead_37 : decode cX3_ahead 37 = .ok (.iaload, 1) := by decide +kernel
theorem dX3_ahead_38 : decode cX3_ahead 38 = .ok (.istore_n 3, 1) := by decide +kernel
theorem dX3_ahead_39 : decode cX3_ahead 39 = .ok (.aload_n 0, 1) := by decide +kernel
theorem dX3_ahead_40 : decode cX3_ahead 40 = .ok (.getfield 7, 3) := by decide +kernel
theorem dX3_ahead_43 : decode cX3_ahead 43 = .ok (.iload_n 2, 1) := by decide +kernel
theorem dX3_ahead_44 : decode cX3_ahead 44 = .ok (.iaload, 1) := by decide +kernel
theorem dX3_ahead_45 : decode cX3_ahead 45 = .ok (.iconst 1, 1) := by decide +kernel
theorem dX3_ahead_46 : decode cX3_ahead 46 = .ok (.if_icmp .ne 38, 3) := by decide +kernel
theorem dX3_ahead_49 : decode cX3_ahead 49 = .ok (.aload_n 0, 1) := by decide +kernel
theorem dX3_ahead_50 : decode cX3_ahead 50 = .ok (.getfield 35, 3) := by decide +kernel
theorem dX3_ahead_53 : decode cX3_ahead 53 = .ok (.iload_n 2, 1) := by decide +kernel
theorem dX3_ahead_54 : decode cX3_ahead 54 = .ok (.iaload, 1) := by decide +kernel
theorem dX3_ahead_55 : decode cX3_ahead 55 = .ok (.aload_n 0, 1) := by decide +kernel
theorem dX3_ahead_56 : decode cX3_ahead 56 = .ok (.getfield 32, 3) := by decide +kernel
theorem dX3_ahead_59 : decode cX3_ahead 59 = .ok (.iload_n 2, 1) := by decide +kernel
theorem dX3_ahead_60 : decode cX3_ahead 60 = .ok (.iaload, 1) := by decide +kernel
theorem dX3_ahead_61 : decode cX3_ahead 61 = .ok (.iload_n 3, 1) := by decide +kernel
theorem dX3_ahead_62 : decode cX3_ahead 62 = .ok (.isub, 1) := by decide +kernel
theorem dX3_ahead_63 : decode cX3_ahead 63 = .ok (.ishr, 1) := by decide +kernel
theorem dX3_ahead_64 : decode cX3_ahead 64 = .ok (.aload_n 0, 1) := by decide +kernel
theorem dX3_ahead_65 : decode cX3_ahead 65 = .ok (.getfield 35, 3) := by decide +kernel
theorem dX3_ahead_68 : decode cX3_ahead 68 = .ok (.iload_n 1, 1) := by decide +kernel
theorem dX3_ahead_69 : decode cX3_ahead 69 = .ok (.iaload, 1) := by decide +kernel
theorem dX3_ahead_70 : decode cX3_ahead 70 = .ok (.aload_n 0, 1) := by decide +kernel
theorem dX3_ahead_71 : decode cX3_ahead 71 = .ok (.getfield 32, 3) := by decide +kernel
theorem dX3_ahead_74 : decode cX3_ahead 74 = .ok (.iload_n 1, 1) := by decide +kernel
theorem dX3_ahead_75 : decode cX3_ahead 75 = .ok (.iaload, 1) := by decide +kernel
theorem dX3_ahead_76 : decode cX3_ahead 76 = .ok (.iload_n 3, 1) := by decide +kernel
theorem dX3_ahead_77 : decode cX3_ahead 77 = .ok (.isub, 1) := by decide +kernel
theorem dX3_ahead_78 : decode cX3_ahead 78 = .ok (.ishr, 1) := by decide +kernel
theorem dX3_ahead_79 : decode cX3_ahead 79 = .ok (.if_icmp .ne 5, 3) := by decide +kernel
theorem dX3_ahead_82 : decode cX3_ahead 82 = .ok (.iload_n 2, 1) := by decide +kernel
theorem dX3_ahead_83 : decode cX3_ahead 83 = .ok (.ireturn, 1) := by decide +kernel
theorem dX3_ahead_84 : decode cX3_ahead 84 = .ok (.iinc 2 (-1), 3) := by decide +kernel
theorem dX3_ahead_87 : decode cX3_ahead 87 = .ok (.goto (-83), 3) := by decide +kernel
theorem dX3_ahead_90 : decode cX3_ahead 90 = .ok (.iconst (-1), 1) := by decide +kernel
theorem dX3_ahead_91 : decode cX3_ahead 91 = .ok (.ireturn, 1) := by decide +kernel
theorem dX3_catches_0 : decode cX3_catches 0 = .ok (.aload_n 0, 1) := by decide +kernel
theorem dX3_catches_1 : decode cX3_catches 1 = .ok (.iload_n 1, 1) := by decide +kernel
theorem dX3_catches_2 : decode cX3_catches 2 = .ok (.invokevirtual 176, 3) := by decide +kernel
theorem dX3_catches_5 : decode cX3_catches 5 = .ok (.istore_n 2, 1) := by decide +kernel
theorem dX3_catches_6 : decode cX3_catches 6 = .ok (.iload_n 2, 1) := by decide +kernel
theorem dX3_catches_7 : decode cX3_catches 7 = .ok (.iconst (-1), 1) := by decide +kernel
theorem dX3_catches_8 : decode cX3_catches 8 = .ok (.if_icmp .eq 18, 3) := by decide +kernel
theorem dX3_catches_11 : decode cX3_catches 11 = .ok (.aload_n 0, 1) := by decide +kernel
theorem dX3_catches_12 : decode cX3_catches 12 = .ok (.getfield 26, 3) := by decide +kernel
theorem dX3_catches_15 : decode cX3_catches 15 = .ok (.iload_n 1, 1) := by decide +kernel
theorem dX3_catches_16 : decode cX3_catches 16 = .ok (.daload, 1) := by decide +kernel
theorem dX3_catches_17 : decode cX3_catches 17 = .ok (.aload_n 0, 1) := by decide +kernel
theorem dX3_catches_18 : decode cX3_catches 18 = .ok (.iload_n 2, 1) := by decide +kernel
theorem dX3_catches_19 : decode cX3_catches 19 = .ok (.invokevirtual 120, 3) := by decide +kernel
theorem dX3_catches_22 : decode cX3_catches 22 = .ok (.dcmp .g, 1) := by decide +kernel
theorem dX3_catches_23 : decode cX3_catches 23 = .ok (.ifCond .ge 4, 3) := by decide +kernel
theorem dX3_catches_26 : decode cX3_catches 26 = .ok (.return_, 1) := by decide +kernel
theorem dX3_catches_27 : decode cX3_catches 27 = .ok (.aload_n 0, 1) := by decide +kernel
theorem dX3_catches_28 : decode cX3_catches 28 = .ok (.getfield 26, 3) := by decide +kernel
theorem dX3_catches_31 : decode cX3_catches 31 = .ok (.iload_n 1, 1) := by decide +kernel
theorem dX3_catches_32 : decode cX3_catches 32 = .ok (.aload_n 0, 1) := by decide +kernel
theorem dX3_catches_33 : decode cX3_catches 33 = .ok (.iload_n 2, 1) := by decide +kernel
theorem dX3_catches_34 : decode cX3_catches 34 = .ok (.invokevirtual 120, 3) := by decide +kernel
theorem dX3_catches_37 : decode cX3_catches 37 = .ok (.dastore, 1) := by decide +kernel
theorem dX3_catches_38 : decode cX3_catches 38 = .ok (.aload_n 0, 1) := by decide +kernel
theorem dX3_catches_39 : decode cX3_catches 39 = .ok (.getfield 13, 3) := by decide +kernel
theorem dX3_catches_42 : decode cX3_catches 42 = .ok (.iload_n 1, 1) := by decide +kernel
theorem dX3_catches_43 : decode cX3_catches 43 = .ok (.iaload, 1) := by decide +kernel
theorem dX3_catches_44 : decode cX3_catches 44 = .ok (.aload_n 0, 1) := by decide +kernel
theorem dX3_catches_45 : decode cX3_catches 45 = .ok (.getfield 16, 3) := by decide +kernel
theorem dX3_catches_48 : decode cX3_catches 48 = .ok (.iload_n 1, 1) := by decide +kernel
theorem dX3_catches_49 : decode cX3_catches 49 = .ok (.iaload, 1) := by decide +kernel
theorem dX3_catches_50 : decode cX3_catches 50 = .ok (.imul, 1) := by decide +kernel
theorem dX3_catches_51 : decode cX3_catches 51 = .ok (.i2d, 1) := by decide +kernel
theorem dX3_catches_52 : decode cX3_catches 52 = .ok (.dstore_n 3, 1) := by decide +kernel
theorem dX3_catches_53 : decode cX3_catches 53 = .ok (.aload_n 0, 1) := by decide +kernel
theorem dX3_catches_54 : decode cX3_catches 54 = .ok (.getfield 13, 3) := by decide +kernel
theorem dX3_catches_57 : decode cX3_catches 57 = .ok (.iload_n 2, 1) := by decide +kernel
theorem dX3_catches_58 : decode cX3_catches 58 = .ok (.iaload, 1) := by decide +kernel
theorem dX3_catches_59 : decode cX3_catches 59 = .ok (.aload_n 0, 1) := by decide +kernel
theorem dX3_catches_60 : decode cX3_catches 60 = .ok (.getfield 16, 3) := by decide +kernel
theorem dX3_catches_63 : decode cX3_catches 63 = .ok (.iload_n 2, 1) := by decide +kernel
theorem dX3_catches_64 : decode cX3_catches 64 = .ok (.iaload, 1) := by decide +kernel
theorem dX3_catches_65 : decode cX3_catches 65 = .ok (.imul, 1) := by decide +kernel
theorem dX3_catches_66 : decode cX3_catches 66 = .ok (.i2d, 1) := by decide +kernel
theorem dX3_catches_67 : decode cX3_catches 67 = .ok (.dstore 5, 2) := by decide +kernel
theorem dX3_catches_69 : decode cX3_catches 69 = .ok (.dload_n 3, 1) := by decide +kernel
theorem dX3_catches_70 : decode cX3_catches 70 = .ok (.aload_n 0, 1) := by decide +kernel
theorem dX3_catches_71 : decode cX3_catches 71 = .ok (.getfield 29, 3) := by decide +kernel
theorem dX3_catches_74 : decode cX3_catches 74 = .ok (.iload_n 1, 1) := by decide +kernel
theorem dX3_catches_75 : decode cX3_catches 75 = .ok (.daload, 1) := by decide +kernel
theorem dX3_catches_76 : decode cX3_catches 76 = .ok (.dmul, 1) := by decide +kernel
theorem dX3_catches_77 : decode cX3_catches 77 = .ok (.dload 5, 2) := by decide +kernel
theorem dX3_catches_79 : decode cX3_catches 79 = .ok (.aload_n 0, 1) := by decide +kernel
theorem dX3_catches_80 : decode cX3_catches 80 = .ok (.getfield 29, 3) := by decide +kernel
theorem dX3_catches_83 : decode cX3_catches 83 = .ok (.iload_n 2, 1) := by decide +kernel
theorem dX3_catches_84 : decode cX3_catches 84 = .ok (.daload, 1) := by decide +kernel
theorem dX3_catches_85 : decode cX3_catches 85 = .ok (.dmul, 1) := by decide +kernel
theorem dX3_catches_86 : decode cX3_catches 86 = .ok (.dadd, 1) := by decide +kernel
theorem dX3_catches_87 : decode cX3_catches 87 = .ok (.dload_n 3, 1) := by decide +kernel
theorem dX3_catches_88 : decode cX3_catches 88 = .ok (.dload 5, 2) := by decide +kernel
theorem dX3_catches_90 : decode cX3_catches 90 = .ok (.dadd, 1) := by decide +kernel
theorem dX3_catches_91 : decode cX3_catches 91 = .ok (.ddiv, 1) := by decide +kernel
theorem dX3_catches_92 : decode cX3_catches 92 = .ok (.dstore 7, 2) := by decide +kernel
theorem dX3_catches_94 : decode cX3_catches 94 = .ok (.aload_n 0, 1) := by decide +kernel
theorem dX3_catches_95 : decode cX3_catches 95 = .ok (.getfield 29, 3) := by decide +kernel
theorem dX3_catches_98 : decode cX3_catches 98 = .ok (.iload_n 1, 1) := by decide +kernel
theorem dX3_catches_99 : decode cX3_catches 99 = .ok (.dload 7, 2) := by decide +kernel
theorem dX3_catches_101 : decode cX3_catches 101 = .ok (.dastore, 1) := by decide +kernel
theorem dX3_catches_102 : decode cX3_catches 102 = .ok (.aload_n 0, 1) := by decide +kernel
theorem dX3_catches_103 : decode cX3_catches 103 = .ok (.getfield 29, 3) := by decide +kernel
theorem dX3_catches_106 : decode cX3_catches 106 = .ok (.iload_n 2, 1) := by decide +kernel
theorem dX3_catches_107 : decode cX3_catches 107 = .ok (.dload 7, 2) := by decide +kernel
theorem dX3_catches_109 : decode cX3_catches 109 = .ok (.dastore, 1) := by decide +kernel
theorem dX3_catches_110 : decode cX3_catches 110 = .ok (.aload_n 0, 1) := by decide +kernel
theorem dX3_catches_111 : decode cX3_catches 111 = .ok (.getfield 38, 3) := by decide +kernel
theorem dX3_catches_114 : decode cX3_catches 114 = .ok (.iload_n 1, 1) := by decide +kernel
theorem dX3_catches_115 : decode cX3_catches 115 = .ok (.iaload, 1) := by decide +kernel
theorem dX3_catches_116 : decode cX3_catches 116 = .ok (.iload_n 2, 1) := by decide +kernel
theorem dX3_catches_117 : decode cX3_catches 117 = .ok (.if_icmp .eq 10, 3) := by decide +kernel
theorem dX3_catches_120 : decode cX3_catches 120 = .ok (.aload_n 0, 1) := by decide +kernel
theorem dX3_catches_121 : decode cX3_catches 121 = .ok (.iconst 1, 1) := by decide +kernel
theorem dX3_catches_122 : decode cX3_catches 122 = .ok (.iload_n 1, 1) := by decide +kernel
theorem dX3_catches_123 : decode cX3_catches 123 = .ok (.iload_n 2, 1) := by decide +kernel
theorem dX3_catches_124 : decode cX3_catches 124 = .ok (.invokevirtual 172, 3) := by decide +kernel
theorem dX3_catches_127 : decode cX3_catches 127 = .ok (.aload_n 0, 1) := by decide +kernel
theorem dX3_catches_128 : decode cX3_catches 128 = .ok (.getfield 38, 3) := by decide +kernel
theorem dX3_catches_131 : decode cX3_catches 131 = .ok (.iload_n 1, 1) := by decide +kernel
theorem dX3_catches_132 : decode cX3_catches 132 = .ok (.iload_n 2, 1) := by decide +kernel
theorem dX3_catches_133 : decode cX3_catches 133 = .ok (.iastore, 1) := by decide +kernel
theorem dX3_catches_134 : decode cX3_catches 134 = .ok (.return_, 1) := by decide +kernel
theorem dX3_ends_0 : decode cX3_ends 0 = .ok (.aload_n 0, 1) := by decide +kernel
theorem dX3_ends_1 : decode cX3_ends 1 = .ok (.getfield 32, 3) := by decide +kernel
theorem dX3_ends_4 : decode cX3_ends 4 = .ok (.iload_n 1, 1) := by decide +kernel
theorem dX3_ends_5 : decode cX3_ends 5 = .ok (.iaload, 1) := by decide +kernel
theorem dX3_ends_6 : decode cX3_ends 6 = .ok (.iconst 3, 1) := by decide +kernel
theorem dX3_ends_7 : decode cX3_ends 7 = .ok (.if_icmp .lt 16, 3) := by decide +kernel
theorem dX3_ends_10 : decode cX3_ends 10 = .ok (.aload_n 0, 1) := by decide +kernel
theorem dX3_ends_11 : decode cX3_ends 11 = .ok (.getfield 26, 3) := by decide +kernel
theorem dX3_ends_14 : decode cX3_ends 14 = .ok (.iload_n 1, 1) := by decide +kernel
theorem dX3_ends_15 : decode cX3_ends 15 = .ok (.daload, 1) := by decide +kernel
theorem dX3_ends_16 : decode cX3_ends 16 = .ok (.ldc2_w 156, 3) := by decide +kernel
theorem dX3_ends_19 : decode cX3_ends 19 = .ok (.dcmp .g, 1) := by decide +kernel
theorem dX3_ends_20 : decode cX3_ends 20 = .ok (.ifCond .ge 4, 3) := by decide +kernel
theorem dX3_ends_23 : decode cX3_ends 23 = .ok (.return_, 1) := by decide +kernel
theorem dX3_ends_24 : decode cX3_ends 24 = .ok (.aload_n 0, 1) := by decide +kernel
theorem dX3_ends_25 : decode cX3_ends 25 = .ok (.getfield 35, 3) := by decide +kernel
theorem dX3_ends_28 : decode cX3_ends 28 = .ok (.iload_n 1, 1) := by decide +kernel
theorem dX3_ends_29 : decode cX3_ends 29 = .ok (.iaload, 1) := by decide +kernel
theorem dX3_ends_30 : decode cX3_ends 30 = .ok (.istore_n 2, 1) := by decide +kernel
theorem dX3_ends_31 : decode cX3_ends 31 = .ok (.aload_n 0, 1) := by decide +kernel
theorem dX3_ends_32 : decode cX3_ends 32 = .ok (.getfield 26, 3) := by decide +kernel
theorem dX3_ends_35 : decode cX3_ends 35 = .ok (.iload_n 1, 1) := by decide +kernel
theorem dX3_ends_36 : decode cX3_ends 36 = .ok (.daload, 1) := by decide +kernel
theorem dX3_ends_37 : decode cX3_ends 37 = .ok (.ldc2_w 156, 3) := by decide +kernel
theorem dX3_ends_40 : decode cX3_ends 40 = .ok (.aload_n 0, 1) := by decide +kernel
theorem dX3_ends_41 : decode cX3_ends 41 = .ok (.getfield 44, 3) := by decide +kernel
theorem dX3_ends_44 : decode cX3_ends 44 = .ok (.iload_n 2, 1) := by decide +kernel
theorem dX3_ends_45 : decode cX3_ends 45 = .ok (.daload, 1) := by decide +kernel
theorem dX3_ends_46 : decode cX3_ends 46 = .ok (.dadd, 1) := by decide +kernel
theorem dX3_ends_47 : decode cX3_ends 47 = .ok (.dcmp .l, 1) := by decide +kernel
theorem dX3_ends_48 : decode cX3_ends 48 = .ok (.ifCond .lt 80, 3) := by decide +kernel
theorem dX3_ends_51 : decode cX3_ends 51 = .ok (.aload_n 0, 1) := by decide +kernel
theorem dX3_ends_52 : decode cX3_ends 52 = .ok (.getfield 7, 3) := by decide +kernel
theorem dX3_ends_55 : decode cX3_ends 55 = .ok (.iload_n 1, 1) := by decide +kernel
theorem dX3_ends_56 : decode cX3_ends 56 = .ok (.iconst 2, 1) := by decide +kernel
theorem dX3_ends_57 : decode cX3_ends 57 = .ok (.iastore, 1) := by decide +kernel
theorem dX3_ends_58 : decode cX3_ends 58 = .ok (.aload_n 0, 1) := by decide +kernel
theorem dX3_ends_59 : decode cX3_ends 59 = .ok (.getfield 44, 3) := by decide +kernel
theorem dX3_ends_62 : decode cX3_ends 62 = .ok (.iload_n 2, 1) := by decide +kernel
theorem dX3_ends_63 : decode cX3_ends 63 = .ok (.daload, 1) := by decide +kernel
theorem dX3_ends_64 : decode cX3_ends 64 = .ok (.ldc2_w 108, 3) := by decide +kernel
theorem dX3_ends_67 : decode cX3_ends 67 = .ok (.aload_n 0, 1) := by decide +kernel
theorem dX3_ends_68 : decode cX3_ends 68 = .ok (.getfield 13, 3) := by decide +kernel
theorem dX3_ends_71 : decode cX3_ends 71 = .ok (.iload_n 1, 1) := by decide +kernel
theorem dX3_ends_72 : decode cX3_ends 72 = .ok (.iaload, 1) := by decide +kernel
theorem dX3_ends_73 : decode cX3_ends 73 = .ok (.i2d, 1) := by decide +kernel
theorem dX3_ends_74 : decode cX3_ends 74 = .ok (.dmul, 1) := by decide +kernel
theorem dX3_ends_75 : decode cX3_ends 75 = .ok (.dsub, 1) := by decide +kernel
theorem dX3_ends_76 : decode cX3_ends 76 = .ok (.dstore_n 3, 1) := by decide +kernel
theorem dX3_ends_77 : decode cX3_ends 77 = .ok (.aload_n 0, 1) := by decide +kernel
theorem dX3_ends_78 : decode cX3_ends 78 = .ok (.getfield 44, 3) := by decide +kernel
theorem dX3_ends_81 : decode cX3_ends 81 = .ok (.iload_n 2, 1) := by decide +kernel
theorem dX3_ends_82 : decode cX3_ends 82 = .ok (.dload_n 3, 1) := by decide +kernel
theorem dX3_ends_83 : decode cX3_ends 83 = .ok (.dconst 0, 1) := by decide +kernel
theorem dX3_ends_84 : decode cX3_ends 84 = .ok (.dcmp .g, 1) := by decide +kernel
theorem dX3_ends_85 : decode cX3_ends 85 = .ok (.ifCond .ge 7, 3) := by decide +kernel
theorem dX3_ends_88 : decode cX3_ends 88 = .ok (.dconst 0, 1) := by decide +kernel
theorem dX3_ends_89 : decode cX3_ends 89 = .ok (.goto 4, 3) := by decide +kernel
theorem dX3_ends_92 : decode cX3_ends 92 = .ok (.dload_n 3, 1) := by decide +kernel
theorem dX3_ends_93 : decode cX3_ends 93 = .ok (.dastore, 1) := by decide +kernel
theorem dX3_ends_94 : decode cX3_ends 94 = .ok (.aload_n 0, 1) := by decide +kernel
theorem dX3_ends_95 : decode cX3_ends 95 = .ok (.aload_n 0, 1) := by decide +kernel
theorem dX3_ends_96 : decode cX3_ends 96 = .ok (.getfield 29, 3) := by decide +kernel
theorem dX3_ends_99 : decode cX3_ends 99 = .ok (.iload_n 1, 1) := by decide +kernel
theorem dX3_ends_100 : decode cX3_ends 100 = .ok (.daload, 1) := by decide +kernel
theorem dX3_ends_101 : decode cX3_ends 101 = .ok (.aload_n 0, 1) := by decide +kernel
theorem dX3_ends_102 : decode cX3_ends 102 = .ok (.getfield 179, 3) := by decide +kernel
theorem dX3_ends_105 : decode cX3_ends 105 = .ok (.dcmp .l, 1) := by decide +kernel
theorem dX3_ends_106 : decode cX3_ends 106 = .ok (.ifCond .le 12, 3) := by decide +kernel
theorem dX3_ends_109 : decode cX3_ends 109 = .ok (.aload_n 0, 1) := by decide +kernel
theorem dX3_ends_110 : decode cX3_ends 110 = .ok (.getfield 29, 3) := by decide +kernel
theorem dX3_ends_113 : decode cX3_ends 113 = .ok (.iload_n 1, 1) := by decide +kernel
theorem dX3_ends_114 : decode cX3_ends 114 = .ok (.daload, 1) := by decide +kernel
theorem dX3_ends_115 : decode cX3_ends 115 = .ok (.goto 7, 3) := by decide +kernel
theorem dX3_ends_118 : decode cX3_ends 118 = .ok (.aload_n 0, 1) := by decide +kernel
theorem dX3_ends_119 : decode cX3_ends 119 = .ok (.getfield 179, 3) := by decide +kernel
theorem dX3_ends_122 : decode cX3_ends 122 = .ok (.putfield 179, 3) := by decide +kernel
theorem dX3_ends_125 : decode cX3_ends 125 = .ok (.goto 52, 3) := by decide +kernel
theorem dX3_ends_128 : decode cX3_ends 128 = .ok (.aload_n 0, 1) := by decide +kernel
theorem dX3_ends_129 : decode cX3_ends 129 = .ok (.getfield 29, 3) := by decide +kernel
theorem dX3_ends_132 : decode cX3_ends 132 = .ok (.iload_n 1, 1) := by decide +kernel
theorem dX3_ends_133 : decode cX3_ends 133 = .ok (.daload, 1) := by decide +kernel
theorem dX3_ends_134 : decode cX3_ends 134 = .ok (.dconst 0, 1) := by decide +kernel
theorem dX3_ends_135 : decode cX3_ends 135 = .ok (.dcmp .l, 1) := by decide +kernel
theorem dX3_ends_136 : decode cX3_ends 136 = .ok (.ifCond .ne 40, 3) := by decide +kernel
theorem dX3_ends_139 : decode cX3_ends 139 = .ok (.aload_n 0, 1) := by decide +kernel
theorem dX3_ends_140 : decode cX3_ends 140 = .ok (.iload_n 1, 1) := by decide +kernel
theorem dX3_ends_141 : decode cX3_ends 141 = .ok (.invokevirtual 120, 3) := by decide +kernel
theorem dX3_ends_144 : decode cX3_ends 144 = .ok (.ldc2_w 156, 3) := by decide +kernel
theorem dX3_ends_147 : decode cX3_ends 147 = .ok (.dcmp .l, 1) := by decide +kernel
theorem dX3_ends_148 : decode cX3_ends 148 = .ok (.ifCond .lt 28, 3) := by decide +kernel
theorem dX3_ends_151 : decode cX3_ends 151 = .ok (.aload_n 0, 1) := by decide +kernel
theorem dX3_ends_152 : decode cX3_ends 152 = .ok (.getfield 7, 3) := by decide +kernel
theorem dX3_ends_155 : decode cX3_ends 155 = .ok (.iload_n 1, 1) := by decide +kernel
theorem dX3_ends_156 : decode cX3_ends 156 = .ok (.iconst 3, 1) := by decide +kernel
theorem dX3_ends_157 : decode cX3_ends 157 = .ok (.iastore, 1) := by decide +kernel
theorem dX3_ends_158 : decode cX3_ends 158 = .ok (.aload_n 0, 1) := by decide +kernel
theorem dX3_ends_159 : decode cX3_ends 159 = .ok (.getfield 44, 3) := by decide +kernel
theorem dX3_ends_162 : decode cX3_ends 162 = .ok (.iload_n 2, 1) := by decide +kernel
theorem dX3_ends_163 : decode cX3_ends 163 = .ok (.aload_n 0, 1) := by decide +kernel
theorem dX3_ends_164 : decode cX3_ends 164 = .ok (.iload_n 1, 1) := by decide +kernel
theorem dX3_ends_165 : decode cX3_ends 165 = .ok (.invokevirtual 120, 3) := by decide +kernel
theorem dX3_ends_168 : decode cX3_ends 168 = .ok (.ldc2_w 156, 3) := by decide +kernel
theorem dX3_ends_171 : decode cX3_ends 171 = .ok (.dsub, 1) := by decide +kernel
theorem dX3_ends_172 : decode cX3_ends 172 = .ok (.dastore, 1) := by decide +kernel
theorem dX3_ends_173 : decode cX3_ends 173 = .ok (.goto 4, 3) := by decide +kernel
theorem dX3_ends_176 : decode cX3_ends 176 = .ok (.return_, 1) := by decide +kernel
theorem dX3_ends_177 : decode cX3_ends 177 = .ok (.aload_n 0, 1) := by decide +kernel
theorem dX3_ends_178 : decode cX3_ends 178 = .ok (.getfield 57, 3) := by decide +kernel
theorem dX3_ends_181 : decode cX3_ends 181 = .ok (.bipush 60, 2) := by decide +kernel
theorem dX3_ends_183 : decode cX3_ends 183 = .ok (.iload_n 2, 1) := by decide +kernel
theorem dX3_ends_184 : decode cX3_ends 184 = .ok (.imul, 1) := by decide +kernel
theorem dX3_ends_185 : decode cX3_ends 185 = .ok (.aload_n 0, 1) := by decide +kernel
theorem dX3_ends_186 : decode cX3_ends 186 = .ok (.getfield 60, 3) := by decide +kernel
theorem dX3_ends_189 : decode cX3_ends 189 = .ok (.iload_n 2, 1) := by decide +kernel
theorem dX3_ends_190 : decode cX3_ends 190 = .ok (.iaload, 1) := by decide +kernel
theorem dX3_ends_191 : decode cX3_ends 191 = .ok (.iadd, 1) := by decide +kernel
theorem dX3_ends_192 : decode cX3_ends 192 = .ok (.iload_n 1, 1) := by decide +kernel
theorem dX3_ends_193 : decode cX3_ends 193 = .ok (.iastore, 1) := by decide +kernel
theorem dX3_ends_194 : decode cX3_ends 194 = .ok (.aload_n 0, 1) := by decide +kernel
theorem dX3_ends_195 : decode cX3_ends 195 = .ok (.getfield 60, 3) := by decide +kernel
theorem dX3_ends_198 : decode cX3_ends 198 = .ok (.iload_n 2, 1) := by decide +kernel
theorem dX3_ends_199 : decode cX3_ends 199 = .ok (.dup2, 1) := by decide +kernel
theorem dX3_ends_200 : decode cX3_ends 200 = .ok (.iaload, 1) := by decide +kernel
theorem dX3_ends_201 : decode cX3_ends 201 = .ok (.iconst 1, 1) := by decide +kernel
theorem dX3_ends_202 : decode cX3_ends 202 = .ok (.iadd, 1) := by decide +kernel
theorem dX3_ends_203 : decode cX3_ends 203 = .ok (.iastore, 1) := by decide +kernel
theorem dX3_ends_204 : decode cX3_ends 204 = .ok (.aload_n 0, 1) := by decide +kernel
theorem dX3_ends_205 : decode cX3_ends 205 = .ok (.aload_n 0, 1) := by decide +kernel
theorem dX3_ends_206 : decode cX3_ends 206 = .ok (.getfield 7, 3) := by decide +kernel
theorem dX3_ends_209 : decode cX3_ends 209 = .ok (.iload_n 1, 1) := by decide +kernel
theorem dX3_ends_210 : decode cX3_ends 210 = .ok (.iaload, 1) := by decide +kernel
theorem dX3_ends_211 : decode cX3_ends 211 = .ok (.iload_n 1, 1) := by decide +kernel
theorem dX3_ends_212 : decode cX3_ends 212 = .ok (.iload_n 2, 1) := by decide +kernel
theorem dX3_ends_213 : decode cX3_ends 213 = .ok (.invokevirtual 172, 3) := by decide +kernel
theorem dX3_ends_216 : decode cX3_ends 216 = .ok (.return_, 1) := by decide +kernel
theorem dX3_pushes_0 : decode cX3_pushes 0 = .ok (.iconst (-1), 1) := by decide +kernel
theorem dX3_pushes_1 : decode cX3_pushes 1 = .ok (.istore_n 1, 1) := by decide +kernel
theorem dX3_pushes_2 : decode cX3_pushes 2 = .ok (.aload_n 0, 1) := by decide +kernel
theorem dX3_pushes_3 : decode cX3_pushes 3 = .ok (.getfield 89, 3) := by decide +kernel
theorem dX3_pushes_6 : decode cX3_pushes 6 = .ok (.dconst 0, 1) := by decide +kernel
theorem dX3_pushes_7 : decode cX3_pushes 7 = .ok (.dcmp .l, 1) := by decide +kernel
theorem dX3_pushes_8 : decode cX3_pushes 8 = .ok (.ifCond .le 7, 3) := by decide +kernel
theorem dX3_pushes_11 : decode cX3_pushes 11 = .ok (.iconst 1, 1) := by decide +kernel
theorem dX3_pushes_12 : decode cX3_pushes 12 = .ok (.goto 4, 3) := by decide +kernel
theorem dX3_pushes_15 : decode cX3_pushes 15 = .ok (.iconst 0, 1) := by decide +kernel
theorem dX3_pushes_16 : decode cX3_pushes 16 = .ok (.istore_n 2, 1) := by decide +kernel
theorem dX3_pushes_17 : decode cX3_pushes 17 = .ok (.aload_n 0, 1) := by decide +kernel
theorem dX3_pushes_18 : decode cX3_pushes 18 = .ok (.getfield 80, 3) := by decide +kernel
theorem dX3_pushes_21 : decode cX3_pushes 21 = .ok (.iconst 1, 1) := by decide +kernel
theorem dX3_pushes_22 : decode cX3_pushes 22 = .ok (.isub, 1) := by decide +kernel
theorem dX3_pushes_23 : decode cX3_pushes 23 = .ok (.istore_n 3, 1) := by decide +kernel
theorem dX3_pushes_24 : decode cX3_pushes 24 = .ok (.iload_n 3, 1) := by decide +kernel
theorem dX3_pushes_25 : decode cX3_pushes 25 = .ok (.ifCond .lt 56, 3) := by decide +kernel
theorem dX3_pushes_28 : decode cX3_pushes 28 = .ok (.aload_n 0, 1) := by decide +kernel
theorem dX3_pushes_29 : decode cX3_pushes 29 = .ok (.getfield 7, 3) := by decide +kernel
theorem dX3_pushes_32 : decode cX3_pushes 32 = .ok (.iload_n 3, 1) := by decide +kernel
theorem dX3_pushes_33 : decode cX3_pushes 33 = .ok (.iaload, 1) := by decide +kernel
theorem dX3_pushes_34 : decode cX3_pushes 34 = .ok (.ifCond .ne 7, 3) := by decide +kernel
theorem dX3_pushes_37 : decode cX3_pushes 37 = .ok (.iload_n 3, 1) := by decide +kernel
theorem dX3_pushes_38 : decode cX3_pushes 38 = .ok (.goto 4, 3) := by decide +kernel
theorem dX3_pushes_41 : decode cX3_pushes 41 = .ok (.iload_n 1, 1) := by decide +kernel
theorem dX3_pushes_42 : decode cX3_pushes 42 = .ok (.istore_n 1, 1) := by decide +kernel
theorem dX3_pushes_43 : decode cX3_pushes 43 = .ok (.iload_n 2, 1) := by decide +kernel
theorem dX3_pushes_44 : decode cX3_pushes 44 = .ok (.ifCond .eq 29, 3) := by decide +kernel
theorem dX3_pushes_47 : decode cX3_pushes 47 = .ok (.aload_n 0, 1) := by decide +kernel
theorem dX3_pushes_48 : decode cX3_pushes 48 = .ok (.getfield 7, 3) := by decide +kernel
theorem dX3_pushes_51 : decode cX3_pushes 51 = .ok (.iload_n 3, 1) := by decide +kernel
theorem dX3_pushes_52 : decode cX3_pushes 52 = .ok (.iaload, 1) := by decide +kernel
theorem dX3_pushes_53 : decode cX3_pushes 53 = .ok (.iconst 1, 1) := by decide +kernel
theorem dX3_pushes_54 : decode cX3_pushes 54 = .ok (.if_icmp .ne 15, 3) := by decide +kernel
theorem dX3_pushes_57 : decode cX3_pushes 57 = .ok (.aload_n 0, 1) := by decide +kernel
theorem dX3_pushes_58 : decode cX3_pushes 58 = .ok (.iload_n 3, 1) := by decide +kernel
theorem dX3_pushes_59 : decode cX3_pushes 59 = .ok (.invokevirtual 120, 3) := by decide +kernel
theorem dX3_pushes_62 : decode cX3_pushes 62 = .ok (.ldc2_w 123, 3) := by decide +kernel
theorem dX3_pushes_65 : decode cX3_pushes 65 = .ok (.dcmp .l, 1) := by decide +kernel
theorem dX3_pushes_66 : decode cX3_pushes 66 = .ok (.ifCond .lt 7, 3) := by decide +kernel
theorem dX3_pushes_69 : decode cX3_pushes 69 = .ok (.iconst 1, 1) := by decide +kernel
theorem dX3_pushes_70 : decode cX3_pushes 70 = .ok (.goto 4, 3) := by decide +kernel
theorem dX3_pushes_73 : decode cX3_pushes 73 = .ok (.iconst 0, 1) := by decide +kernel
theorem dX3_pushes_74 : decode cX3_pushes 74 = .ok (.istore_n 2, 1) := by decide +kernel
theorem dX3_pushes_75 : decode cX3_pushes 75 = .ok (.iinc 3 (-1), 3) := by decide +kernel
theorem dX3_pushes_78 : decode cX3_pushes 78 = .ok (.goto (-54), 3) := by decide +kernel
theorem dX3_pushes_81 : decode cX3_pushes 81 = .ok (.iload_n 2, 1) := by decide +kernel
theorem dX3_pushes_82 : decode cX3_pushes 82 = .ok (.ifCond .eq 32, 3) := by decide +kernel
theorem dX3_pushes_85 : decode cX3_pushes 85 = .ok (.iload_n 1, 1) := by decide +kernel
theorem dX3_pushes_86 : decode cX3_pushes 86 = .ok (.iconst (-1), 1) := by decide +kernel
theorem dX3_pushes_87 : decode cX3_pushes 87 = .ok (.if_icmp .eq 27, 3) := by decide +kernel
theorem dX3_pushes_90 : decode cX3_pushes 90 = .ok (.aload_n 0, 1) := by decide +kernel
theorem dX3_pushes_91 : decode cX3_pushes 91 = .ok (.getfield 7, 3) := by decide +kernel
theorem dX3_pushes_94 : decode cX3_pushes 94 = .ok (.iload_n 1, 1) := by decide +kernel
theorem dX3_pushes_95 : decode cX3_pushes 95 = .ok (.iconst 1, 1) := by decide +kernel
theorem dX3_pushes_96 : decode cX3_pushes 96 = .ok (.iastore, 1) := by decide +kernel
theorem dX3_pushes_97 : decode cX3_pushes 97 = .ok (.aload_n 0, 1) := by decide +kernel
theorem dX3_pushes_98 : decode cX3_pushes 98 = .ok (.getfield 26, 3) := by decide +kernel
theorem dX3_pushes_101 : decode cX3_pushes 101 = .ok (.iload_n 1, 1) := by decide +kernel
theorem dX3_pushes_102 : decode cX3_pushes 102 = .ok (.dconst 0, 1) := by decide +kernel
theorem dX3_pushes_103 : decode cX3_pushes 103 = .ok (.dastore, 1) := by decide +kernel
theorem dX3_pushes_104 : decode cX3_pushes 104 = .ok (.aload_n 0, 1) := by decide +kernel
theorem dX3_pushes_105 : decode cX3_pushes 105 = .ok (.getfield 29, 3) := by decide +kernel
theorem dX3_pushes_108 : decode cX3_pushes 108 = .ok (.iload_n 1, 1) := by decide +kernel
theorem dX3_pushes_109 : decode cX3_pushes 109 = .ok (.aload_n 0, 1) := by decide +kernel
theorem dX3_pushes_110 : decode cX3_pushes 110 = .ok (.getfield 89, 3) := by decide +kernel
theorem dX3_pushes_113 : decode cX3_pushes 113 = .ok (.dastore, 1) := by decide +kernel
theorem dX3_pushes_114 : decode cX3_pushes 114 = .ok (.return_, 1) := by decide +kernel
theorem dX3_tick_0 : decode cX3_tick 0 = .ok (.aload_n 0, 1) := by decide +kernel
theorem dX3_tick_1 : decode cX3_tick 1 = .ok (.iload_n 1, 1) := by decide +kernel
theorem dX3_tick_2 : decode cX3_tick 2 = .ok (.iconst 1, 1) := by decide +kernel
theorem dX3_tick_3 : decode cX3_tick 3 = .ok (.if_icmp .lt 10, 3) := by decide +kernel
theorem dX3_tick_6 : decode cX3_tick 6 = .ok (.iload_n 1, 1) := by decide +kernel
theorem dX3_tick_7 : decode cX3_tick 7 = .ok (.sipush 400, 3) := by decide +kernel
theorem dX3_tick_10 : decode cX3_tick 10 = .ok (.if_icmp .le 7, 3) := by decide +kernel
theorem dX3_tick_13 : decode cX3_tick 13 = .ok (.iconst 1, 1) := by decide +kernel
theorem dX3_tick_14 : decode cX3_tick 14 = .ok (.goto 4, 3) := by decide +kernel
theorem dX3_tick_17 : decode cX3_tick 17 = .ok (.iconst 0, 1) := by decide +kernel
theorem dX3_tick_18 : decode cX3_tick 18 = .ok (.invokevirtual 83, 3) := by decide +kernel
theorem dX3_tick_21 : decode cX3_tick 21 = .ok (.ifCond .eq 5, 3) := by decide +kernel
theorem dX3_tick_24 : decode cX3_tick 24 = .ok (.iconst 0, 1) := by decide +kernel
theorem dX3_tick_25 : decode cX3_tick 25 = .ok (.ireturn, 1) := by decide +kernel
theorem dX3_tick_26 : decode cX3_tick 26 = .ok (.aload_n 0, 1) := by decide +kernel
theorem dX3_tick_27 : decode cX3_tick 27 = .ok (.getfield 128, 3) := by decide +kernel
theorem dX3_tick_30 : decode cX3_tick 30 = .ok (.istore_n 2, 1) := by decide +kernel
theorem dX3_tick_31 : decode cX3_tick 31 = .ok (.iconst 0, 1) := by decide +kernel
theorem dX3_tick_32 : decode cX3_tick 32 = .ok (.istore_n 3, 1) := by decide +kernel
theorem dX3_tick_33 : decode cX3_tick 33 = .ok (.iload_n 3, 1) := by decide +kernel
theorem dX3_tick_34 : decode cX3_tick 34 = .ok (.iload_n 1, 1) := by decide +kernel
theorem dX3_tick_35 : decode cX3_tick 35 = .ok (.if_icmp .ge 132, 3) := by decide +kernel
theorem dX3_tick_38 : decode cX3_tick 38 = .ok (.aload_n 0, 1) := by decide +kernel
theorem dX3_tick_39 : decode cX3_tick 39 = .ok (.dup, 1) := by decide +kernel
theorem dX3_tick_40 : decode cX3_tick 40 = .ok (.getfield 131, 3) := by decide +kernel
theorem dX3_tick_43 : decode cX3_tick 43 = .ok (.iconst 1, 1) := by decide +kernel
theorem dX3_tick_44 : decode cX3_tick 44 = .ok (.iadd, 1) := by decide +kernel
theorem dX3_tick_45 : decode cX3_tick 45 = .ok (.putfield 131, 3) := by decide +kernel
theorem dX3_tick_48 : decode cX3_tick 48 = .ok (.aload_n 0, 1) := by decide +kernel
theorem dX3_tick_49 : decode cX3_tick 49 = .ok (.invokevirtual 182, 3) := by decide +kernel
theorem dX3_tick_52 : decode cX3_tick 52 = .ok (.iconst 0, 1) := by decide +kernel
theorem dX3_tick_53 : decode cX3_tick 53 = .ok (.istore 4, 2) := by decide +kernel
theorem dX3_tick_55 : decode cX3_tick 55 = .ok (.iload 4, 2) := by decide +kernel
theorem dX3_tick_57 : decode cX3_tick 57 = .ok (.aload_n 0, 1) := by decide +kernel
theorem dX3_tick_58 : decode cX3_tick 58 = .ok (.getfield 80, 3) := by decide +kernel
theorem dX3_tick_61 : decode cX3_tick 61 = .ok (.if_icmp .ge 26, 3) := by decide +kernel
theorem dX3_tick_64 : decode cX3_tick 64 = .ok (.aload_n 0, 1) := by decide +kernel
theorem dX3_tick_65 : decode cX3_tick 65 = .ok (.getfield 7, 3) := by decide +kernel
theorem dX3_tick_68 : decode cX3_tick 68 = .ok (.iload 4, 2) := by decide +kernel
theorem dX3_tick_70 : decode cX3_tick 70 = .ok (.iaload, 1) := by decide +kernel
theorem dX3_tick_71 : decode cX3_tick 71 = .ok (.iconst 1, 1) := by decide +kernel
theorem dX3_tick_72 : decode cX3_tick 72 = .ok (.if_icmp .ne 9, 3) := by decide +kernel
theorem dX3_tick_75 : decode cX3_tick 75 = .ok (.aload_n 0, 1) := by decide +kernel
theorem dX3_tick_76 : decode cX3_tick 76 = .ok (.iload 4, 2) := by decide +kernel
theorem dX3_tick_78 : decode cX3_tick 78 = .ok (.invokevirtual 185, 3) := by decide +kernel
theorem dX3_tick_81 : decode cX3_tick 81 = .ok (.iinc 4 1, 3) := by decide +kernel
theorem dX3_tick_84 : decode cX3_tick 84 = .ok (.goto (-29), 3) := by decide +kernel
theorem dX3_tick_87 : decode cX3_tick 87 = .ok (.iconst 0, 1) := by decide +kernel
theorem dX3_tick_88 : decode cX3_tick 88 = .ok (.istore 4, 2) := by decide +kernel
theorem dX3_tick_90 : decode cX3_tick 90 = .ok (.iload 4, 2) := by decide +kernel
theorem dX3_tick_92 : decode cX3_tick 92 = .ok (.aload_n 0, 1) := by decide +kernel
theorem dX3_tick_93 : decode cX3_tick 93 = .ok (.getfield 80, 3) := by decide +kernel
theorem dX3_tick_96 : decode cX3_tick 96 = .ok (.if_icmp .ge 26, 3) := by decide +kernel
theorem dX3_tick_99 : decode cX3_tick 99 = .ok (.aload_n 0, 1) := by decide +kernel
theorem dX3_tick_100 : decode cX3_tick 100 = .ok (.getfield 7, 3) := by decide +kernel
theorem dX3_tick_103 : decode cX3_tick 103 = .ok (.iload 4, 2) := by decide +kernel
theorem dX3_tick_105 : decode cX3_tick 105 = .ok (.iaload, 1) := by decide +kernel
theorem dX3_tick_106 : decode cX3_tick 106 = .ok (.iconst 1, 1) := by decide +kernel
theorem dX3_tick_107 : decode cX3_tick 107 = .ok (.if_icmp .ne 9, 3) := by decide +kernel
theorem dX3_tick_110 : decode cX3_tick 110 = .ok (.aload_n 0, 1) := by decide +kernel
theorem dX3_tick_111 : decode cX3_tick 111 = .ok (.iload 4, 2) := by decide +kernel
theorem dX3_tick_113 : decode cX3_tick 113 = .ok (.invokevirtual 189, 3) := by decide +kernel
theorem dX3_tick_116 : decode cX3_tick 116 = .ok (.iinc 4 1, 3) := by decide +kernel
theorem dX3_tick_119 : decode cX3_tick 119 = .ok (.goto (-29), 3) := by decide +kernel
theorem dX3_tick_122 : decode cX3_tick 122 = .ok (.iconst 0, 1) := by decide +kernel
theorem dX3_tick_123 : decode cX3_tick 123 = .ok (.istore 4, 2) := by decide +kernel
theorem dX3_tick_125 : decode cX3_tick 125 = .ok (.iload 4, 2) := by decide +kernel
theorem dX3_tick_127 : decode cX3_tick 127 = .ok (.aload_n 0, 1) := by decide +kernel
theorem dX3_tick_128 : decode cX3_tick 128 = .ok (.getfield 80, 3) := by decide +kernel
theorem dX3_tick_131 : decode cX3_tick 131 = .ok (.if_icmp .ge 26, 3) := by decide +kernel
theorem dX3_tick_134 : decode cX3_tick 134 = .ok (.aload_n 0, 1) := by decide +kernel
theorem dX3_tick_135 : decode cX3_tick 135 = .ok (.getfield 7, 3) := by decide +kernel
theorem dX3_tick_138 : decode cX3_tick 138 = .ok (.iload 4, 2) := by decide +kernel
theorem dX3_tick_140 : decode cX3_tick 140 = .ok (.iaload, 1) := by decide +kernel
theorem dX3_tick_141 : decode cX3_tick 141 = .ok (.iconst 1, 1) := by decide +kernel
theorem dX3_tick_142 : decode cX3_tick 142 = .ok (.if_icmp .ne 9, 3) := by decide +kernel
theorem dX3_tick_145 : decode cX3_tick 145 = .ok (.aload_n 0, 1) := by decide +kernel
theorem dX3_tick_146 : decode cX3_tick 146 = .ok (.iload 4, 2) := by decide +kernel
theorem dX3_tick_148 : decode cX3_tick 148 = .ok (.invokevirtual 192, 3) := by decide +kernel
theorem dX3_tick_151 : decode cX3_tick 151 = .ok (.iinc 4 1, 3) := by decide +kernel
theorem dX3_tick_154 : decode cX3_tick 154 = .ok (.goto (-29), 3) := by decide +kernel
theorem dX3_tick_157 : decode cX3_tick 157 = .ok (.aload_n 0, 1) := by decide +kernel
theorem dX3_tick_158 : decode cX3_tick 158 = .ok (.invokevirtual 195, 3) := by decide +kernel
theorem dX3_tick_161 : decode cX3_tick 161 = .ok (.iinc 3 1, 3) := by decide +kernel
theorem dX3_tick_164 : decode cX3_tick 164 = .ok (.goto (-131), 3) := by decide +kernel
theorem dX3_tick_167 : decode cX3_tick 167 = .ok (.aload_n 0, 1) := by decide +kernel
theorem dX3_tick_168 : decode cX3_tick 168 = .ok (.getfield 128, 3) := by decide +kernel
theorem dX3_tick_171 : decode cX3_tick 171 = .ok (.iload_n 2, 1) := by decide +kernel
theorem dX3_tick_172 : decode cX3_tick 172 = .ok (.isub, 1) := by decide +kernel
theorem dX3_tick_173 : decode cX3_tick 173 = .ok (.ireturn, 1) := by decide +kernel
theorem dX3_isCut_0 : decode cX3_isCut 0 = .ok (.iload_n 1, 1) := by decide +kernel
theorem dX3_isCut_1 : decode cX3_isCut 1 = .ok (.ifCond .lt 15, 3) := by decide +kernel
theorem dX3_isCut_4 : decode cX3_isCut 4 = .ok (.iload_n 1, 1) := by decide +kernel
theorem dX3_isCut_5 : decode cX3_isCut 5 = .ok (.aload_n 0, 1) := by decide +kernel
theorem dX3_isCut_6 : decode cX3_isCut 6 = .ok (.getfield 80, 3) := by decide +kernel
theorem dX3_isCut_9 : decode cX3_isCut 9 = .ok (.if_icmp .ge 7, 3) := by decide +kernel
theorem dX3_isCut_12 : decode cX3_isCut 12 = .ok (.iconst 1, 1) := by decide +kernel
theorem dX3_isCut_13 : decode cX3_isCut 13 = .ok (.goto 4, 3) := by decide +kernel
theorem dX3_isCut_16 : decode cX3_isCut 16 = .ok (.iconst 0, 1) := by decide +kernel
theorem dX3_isCut_17 : decode cX3_isCut 17 = .ok (.ireturn, 1) := by decide +kernel
theorem dX3_place_0 : decode cX3_place 0 = .ok (.aload_n 0, 1) := by decide +kernel
theorem dX3_place_1 : decode cX3_place 1 = .ok (.aload_n 0, 1) := by decide +kernel
theorem dX3_place_2 : decode cX3_place 2 = .ok (.iload_n 1, 1) := by decide +kernel
theorem dX3_place_3 : decode cX3_place 3 = .ok (.invokevirtual 198, 3) := by decide +kernel
theorem dX3_place_6 : decode cX3_place 6 = .ok (.ifCond .eq 7, 3) := by decide +kernel
theorem dX3_place_9 : decode cX3_place 9 = .ok (.iconst 0, 1) := by decide +kernel
theorem dX3_place_10 : decode cX3_place 10 = .ok (.goto 4, 3) := by decide +kernel
theorem dX3_place_13 : decode cX3_place 13 = .ok (.iconst 1, 1) := by decide +kernel
theorem dX3_place_14 : decode cX3_place 14 = .ok (.invokevirtual 83, 3) := by decide +kernel
theorem dX3_place_17 : decode cX3_place 17 = .ok (.ifCond .eq 7, 3) := by decide +kernel
theorem dX3_place_20 : decode cX3_place 20 = .ok (.dconst 0, 1) := by decide +kernel
theorem dX3_place_21 : decode cX3_place 21 = .ok (.goto 9, 3) := by decide +kernel
theorem dX3_place_24 : decode cX3_place 24 = .ok (.aload_n 0, 1) := by decide +kernel
theorem dX3_place_25 : decode cX3_place 25 = .ok (.getfield 26, 3) := by decide +kernel
theorem dX3_place_28 : decode cX3_place 28 = .ok (.iload_n 1, 1) := by decide +kernel
theorem dX3_place_29 : decode cX3_place 29 = .ok (.daload, 1) := by decide +kernel
theorem dX3_place_30 : decode cX3_place 30 = .ok (.dreturn, 1) := by decide +kernel
theorem dX3_speed_0 : decode cX3_speed 0 = .ok (.aload_n 0, 1) := by decide +kernel
theorem dX3_speed_1 : decode cX3_speed 1 = .ok (.aload_n 0, 1) := by decide +kernel
theorem dX3_speed_2 : decode cX3_speed 2 = .ok (.iload_n 1, 1) := by decide +kernel
theorem dX3_speed_3 : decode cX3_speed 3 = .ok (.invokevirtual 198, 3) := by decide +kernel
theorem dX3_speed_6 : decode cX3_speed 6 = .ok (.ifCond .eq 7, 3) := by decide +kernel
theorem dX3_speed_9 : decode cX3_speed 9 = .ok (.iconst 0, 1) := by decide +kernel
theorem dX3_speed_10 : decode cX3_speed 10 = .ok (.goto 4, 3) := by decide +kernel
theorem dX3_speed_13 : decode cX3_speed 13 = .ok (.iconst 1, 1) := by decide +kernel
theorem dX3_speed_14 : decode cX3_speed 14 = .ok (.invokevirtual 83, 3) := by decide +kernel
theorem dX3_speed_17 : decode cX3_speed 17 = .ok (.ifCond .eq 7, 3) := by decide +kernel
theorem dX3_speed_20 : decode cX3_speed 20 = .ok (.dconst 0, 1) := by decide +kernel
theorem dX3_speed_21 : decode cX3_speed 21 = .ok (.goto 9, 3) := by decide +kernel
theorem dX3_speed_24 : decode cX3_speed 24 = .ok (.aload_n 0, 1) := by decide +kernel
theorem dX3_speed_25 : decode cX3_speed 25 = .ok (.getfield 29, 3) := by decide +kernel
theorem dX3_speed_28 : decode cX3_speed 28 = .ok (.iload_n 1, 1) := by decide +kernel
theorem dX3_speed_29 : decode cX3_speed 29 = .ok (.daload, 1) := by decide +kernel
theorem dX3_speed_30 : decode cX3_speed 30 = .ok (.dreturn, 1) := by decide +kernel
theorem dX3_told_0 : decode cX3_told 0 = .ok (.aload_n 0, 1) := by decide +kernel
theorem dX3_told_1 : decode cX3_told 1 = .ok (.aload_n 0, 1) := by decide +kernel
theorem dX3_told_2 : decode cX3_told 2 = .ok (.iload_n 1, 1) := by decide +kernel
theorem dX3_told_3 : decode cX3_told 3 = .ok (.invokevirtual 198, 3) := by decide +kernel
theorem dX3_told_6 : decode cX3_told 6 = .ok (.ifCond .ne 7, 3) := by decide +kernel
theorem dX3_told_9 : decode cX3_told 9 = .ok (.iconst 1, 1) := by decide +kernel
theorem dX3_told_10 : decode cX3_told 10 = .ok (.goto 17, 3) := by decide +kernel
theorem dX3_told_13 : decode cX3_told 13 = .ok (.iload_n 2, 1) := by decide +kernel
theorem dX3_told_14 : decode cX3_told 14 = .ok (.ifCond .lt 8, 3) := by decide +kernel
theorem dX3_told_17 : decode cX3_told 17 = .ok (.iload_n 2, 1) := by decide +kernel
theorem dX3_told_18 : decode cX3_told 18 = .ok (.iconst 3, 1) := by decide +kernel
theorem dX3_told_19 : decode cX3_told 19 = .ok (.if_icmp .le 7, 3) := by decide +kernel
theorem dX3_told_22 : decode cX3_told 22 = .ok (.iconst 2, 1) := by decide +kernel
theorem dX3_told_23 : decode cX3_told 23 = .ok (.goto 4, 3) := by decide +kernel
theorem dX3_told_26 : decode cX3_told 26 = .ok (.iconst 0, 1) := by decide +kernel
theorem dX3_told_27 : decode cX3_told 27 = .ok (.invokevirtual 83, 3) := by decide +kernel
theorem dX3_told_30 : decode cX3_told 30 = .ok (.ifCond .eq 5, 3) := by decide +kernel
theorem dX3_told_33 : decode cX3_told 33 = .ok (.iconst 0, 1) := by decide +kernel
theorem dX3_told_34 : decode cX3_told 34 = .ok (.ireturn, 1) := by decide +kernel
theorem dX3_told_35 : decode cX3_told 35 = .ok (.iload_n 2, 1) := by decide +kernel
theorem dX3_told_36 : decode cX3_told 36 = .ok (.ifCond .ne 12, 3) := by decide +kernel
theorem dX3_told_39 : decode cX3_told 39 = .ok (.aload_n 0, 1) := by decide +kernel
theorem dX3_told_40 : decode cX3_told 40 = .ok (.getfield 7, 3) := by decide +kernel
theorem dX3_told_43 : decode cX3_told 43 = .ok (.iload_n 1, 1) := by decide +kernel
theorem dX3_told_44 : decode cX3_told 44 = .ok (.iaload, 1) := by decide +kernel
theorem dX3_told_45 : decode cX3_told 45 = .ok (.goto 51, 3) := by decide +kernel
theorem dX3_told_48 : decode cX3_told 48 = .ok (.iload_n 2, 1) := by decide +kernel
theorem dX3_told_49 : decode cX3_told 49 = .ok (.iconst 1, 1) := by decide +kernel
theorem dX3_told_50 : decode cX3_told 50 = .ok (.if_icmp .ne 26, 3) := by decide +kernel
theorem dX3_told_53 : decode cX3_told 53 = .ok (.aload_n 0, 1) := by decide +kernel
theorem dX3_told_54 : decode cX3_told 54 = .ok (.getfield 32, 3) := by decide +kernel
theorem dX3_told_57 : decode cX3_told 57 = .ok (.iload_n 1, 1) := by decide +kernel
theorem dX3_told_58 : decode cX3_told 58 = .ok (.iaload, 1) := by decide +kernel
theorem dX3_told_59 : decode cX3_told 59 = .ok (.iconst 3, 1) := by decide +kernel
theorem dX3_told_60 : decode cX3_told 60 = .ok (.if_icmp .ne 12, 3) := by decide +kernel
theorem dX3_told_63 : decode cX3_told 63 = .ok (.aload_n 0, 1) := by decide +kernel
theorem dX3_told_64 : decode cX3_told 64 = .ok (.getfield 35, 3) := by decide +kernel
theorem dX3_told_67 : decode cX3_told 67 = .ok (.iload_n 1, 1) := by decide +kernel
theorem dX3_told_68 : decode cX3_told 68 = .ok (.iaload, 1) := by decide +kernel
theorem dX3_told_69 : decode cX3_told 69 = .ok (.goto 27, 3) := by decide +kernel
theorem dX3_told_72 : decode cX3_told 72 = .ok (.iconst (-1), 1) := by decide +kernel
theorem dX3_told_73 : decode cX3_told 73 = .ok (.goto 23, 3) := by decide +kernel
theorem dX3_told_76 : decode cX3_told 76 = .ok (.iload_n 2, 1) := by decide +kernel
theorem dX3_told_77 : decode cX3_told 77 = .ok (.iconst 2, 1) := by decide +kernel
theorem dX3_told_78 : decode cX3_told 78 = .ok (.if_icmp .ne 12, 3) := by decide +kernel
theorem dX3_told_81 : decode cX3_told 81 = .ok (.aload_n 0, 1) := by decide +kernel
theorem dX3_told_82 : decode cX3_told 82 = .ok (.getfield 32, 3) := by decide +kernel
theorem dX3_told_85 : decode cX3_told 85 = .ok (.iload_n 1, 1) := by decide +kernel
theorem dX3_told_86 : decode cX3_told 86 = .ok (.iaload, 1) := by decide +kernel
theorem dX3_told_87 : decode cX3_told 87 = .ok (.goto 9, 3) := by decide +kernel
theorem dX3_told_90 : decode cX3_told 90 = .ok (.aload_n 0, 1) := by decide +kernel
theorem dX3_told_91 : decode cX3_told 91 = .ok (.getfield 38, 3) := by decide +kernel
theorem dX3_told_94 : decode cX3_told 94 = .ok (.iload_n 1, 1) := by decide +kernel
theorem dX3_told_95 : decode cX3_told 95 = .ok (.iaload, 1) := by decide +kernel
theorem dX3_told_96 : decode cX3_told 96 = .ok (.ireturn, 1) := by decide +kernel
theorem dX3_point_0 : decode cX3_point 0 = .ok (.aload_n 0, 1) := by decide +kernel
theorem dX3_point_1 : decode cX3_point 1 = .ok (.iload_n 1, 1) := by decide +kernel
theorem dX3_point_2 : decode cX3_point 2 = .ok (.ifCond .lt 9, 3) := by decide +kernel
theorem dX3_point_5 : decode cX3_point 5 = .ok (.iload_n 1, 1) := by decide +kernel
theorem dX3_point_6 : decode cX3_point 6 = .ok (.bipush 7, 2) := by decide +kernel
theorem dX3_point_8 : decode cX3_point 8 = .ok (.if_icmp .lt 7, 3) := by decide +kernel
theorem dX3_point_11 : decode cX3_point 11 = .ok (.iconst 1, 1) := by decide +kernel
theorem dX3_point_12 : decode cX3_point 12 = .ok (.goto 17, 3) := by decide +kernel
theorem dX3_point_15 : decode cX3_point 15 = .ok (.iload_n 2, 1) := by decide +kernel
theorem dX3_point_16 : decode cX3_point 16 = .ok (.ifCond .lt 8, 3) := by decide +kernel
theorem dX3_point_19 : decode cX3_point 19 = .ok (.iload_n 2, 1) := by decide +kernel
theorem dX3_point_20 : decode cX3_point 20 = .ok (.iconst 2, 1) := by decide +kernel
theorem dX3_point_21 : decode cX3_point 21 = .ok (.if_icmp .le 7, 3) := by decide +kernel
theorem dX3_point_24 : decode cX3_point 24 = .ok (.iconst 2, 1) := by decide +kernel
theorem dX3_point_25 : decode cX3_point 25 = .ok (.goto 4, 3) := by decide +kernel
theorem dX3_point_28 : decode cX3_point 28 = .ok (.iconst 0, 1) := by decide +kernel
theorem dX3_point_29 : decode cX3_point 29 = .ok (.invokevirtual 83, 3) := by decide +kernel
theorem dX3_point_32 : decode cX3_point 32 = .ok (.ifCond .eq 5, 3) := by decide +kernel
theorem dX3_point_35 : decode cX3_point 35 = .ok (.iconst 0, 1) := by decide +kernel
theorem dX3_point_36 : decode cX3_point 36 = .ok (.ireturn, 1) := by decide +kernel
theorem dX3_point_37 : decode cX3_point 37 = .ok (.iload_n 2, 1) := by decide +kernel
theorem dX3_point_38 : decode cX3_point 38 = .ok (.ifCond .ne 12, 3) := by decide +kernel
theorem dX3_point_41 : decode cX3_point 41 = .ok (.aload_n 0, 1) := by decide +kernel
theorem dX3_point_42 : decode cX3_point 42 = .ok (.getfield 47, 3) := by decide +kernel
theorem dX3_point_45 : decode cX3_point 45 = .ok (.iload_n 1, 1) := by decide +kernel
theorem dX3_point_46 : decode cX3_point 46 = .ok (.iaload, 1) := by decide +kernel
theorem dX3_point_47 : decode cX3_point 47 = .ok (.goto 30, 3) := by decide +kernel
theorem dX3_point_50 : decode cX3_point 50 = .ok (.iload_n 2, 1) := by decide +kernel
theorem dX3_point_51 : decode cX3_point 51 = .ok (.iconst 1, 1) := by decide +kernel
theorem dX3_point_52 : decode cX3_point 52 = .ok (.if_icmp .ne 12, 3) := by decide +kernel
theorem dX3_point_55 : decode cX3_point 55 = .ok (.aload_n 0, 1) := by decide +kernel
theorem dX3_point_56 : decode cX3_point 56 = .ok (.getfield 50, 3) := by decide +kernel
theorem dX3_point_59 : decode cX3_point 59 = .ok (.iload_n 1, 1) := by decide +kernel
theorem dX3_point_60 : decode cX3_point 60 = .ok (.iaload, 1) := by decide +kernel
theorem dX3_point_61 : decode cX3_point 61 = .ok (.goto 16, 3) := by decide +kernel
theorem dX3_point_64 : decode cX3_point 64 = .ok (.aload_n 0, 1) := by decide +kernel
theorem dX3_point_65 : decode cX3_point 65 = .ok (.iload_n 1, 1) := by decide +kernel
theorem dX3_point_66 : decode cX3_point 66 = .ok (.invokevirtual 134, 3) := by decide +kernel
theorem dX3_point_69 : decode cX3_point 69 = .ok (.ifCond .eq 7, 3) := by decide +kernel
theorem dX3_point_72 : decode cX3_point 72 = .ok (.iconst 1, 1) := by decide +kernel
theorem dX3_point_73 : decode cX3_point 73 = .ok (.goto 4, 3) := by decide +kernel
theorem dX3_point_76 : decode cX3_point 76 = .ok (.iconst 0, 1) := by decide +kernel
theorem dX3_point_77 : decode cX3_point 77 = .ok (.ireturn, 1) := by decide +kernel
theorem dX3_siding_0 : decode cX3_siding 0 = .ok (.aload_n 0, 1) := by decide +kernel
theorem dX3_siding_1 : decode cX3_siding 1 = .ok (.iload_n 1, 1) := by decide +kernel
theorem dX3_siding_2 : decode cX3_siding 2 = .ok (.ifCond .lt 9, 3) := by decide +kernel
theorem dX3_siding_5 : decode cX3_siding 5 = .ok (.iload_n 1, 1) := by decide +kernel
theorem dX3_siding_6 : decode cX3_siding 6 = .ok (.bipush 8, 2) := by decide +kernel
theorem dX3_siding_8 : decode cX3_siding 8 = .ok (.if_icmp .lt 7, 3) := by decide +kernel
theorem dX3_siding_11 : decode cX3_siding 11 = .ok (.iconst 1, 1) := by decide +kernel
theorem dX3_siding_12 : decode cX3_siding 12 = .ok (.goto 4, 3) := by decide +kernel
theorem dX3_siding_15 : decode cX3_siding 15 = .ok (.iconst 0, 1) := by decide +kernel
theorem dX3_siding_16 : decode cX3_siding 16 = .ok (.invokevirtual 83, 3) := by decide +kernel
theorem dX3_siding_19 : decode cX3_siding 19 = .ok (.ifCond .eq 5, 3) := by decide +kernel
theorem dX3_siding_22 : decode cX3_siding 22 = .ok (.iconst 0, 1) := by decide +kernel
theorem dX3_siding_23 : decode cX3_siding 23 = .ok (.ireturn, 1) := by decide +kernel
theorem dX3_siding_24 : decode cX3_siding 24 = .ok (.iload_n 2, 1) := by decide +kernel
theorem dX3_siding_25 : decode cX3_siding 25 = .ok (.ifCond .lt 27, 3) := by decide +kernel
theorem dX3_siding_28 : decode cX3_siding 28 = .ok (.iload_n 2, 1) := by decide +kernel
theorem dX3_siding_29 : decode cX3_siding 29 = .ok (.aload_n 0, 1) := by decide +kernel
theorem dX3_siding_30 : decode cX3_siding 30 = .ok (.getfield 60, 3) := by decide +kernel
theorem dX3_siding_33 : decode cX3_siding 33 = .ok (.iload_n 1, 1) := by decide +kernel
theorem dX3_siding_34 : decode cX3_siding 34 = .ok (.iaload, 1) := by decide +kernel
theorem dX3_siding_35 : decode cX3_siding 35 = .ok (.if_icmp .ge 17, 3) := by decide +kernel
theorem dX3_siding_38 : decode cX3_siding 38 = .ok (.aload_n 0, 1) := by decide +kernel
theorem dX3_siding_39 : decode cX3_siding 39 = .ok (.getfield 57, 3) := by decide +kernel
theorem dX3_siding_42 : decode cX3_siding 42 = .ok (.bipush 60, 2) := by decide +kernel
theorem dX3_siding_44 : decode cX3_siding 44 = .ok (.iload_n 1, 1) := by decide +kernel
theorem dX3_siding_45 : decode cX3_siding 45 = .ok (.imul, 1) := by decide +kernel
theorem dX3_siding_46 : decode cX3_siding 46 = .ok (.iload_n 2, 1) := by decide +kernel
theorem dX3_siding_47 : decode cX3_siding 47 = .ok (.iadd, 1) := by decide +kernel
theorem dX3_siding_48 : decode cX3_siding 48 = .ok (.iaload, 1) := by decide +kernel
theorem dX3_siding_49 : decode cX3_siding 49 = .ok (.goto 4, 3) := by decide +kernel
theorem dX3_siding_52 : decode cX3_siding 52 = .ok (.iconst (-1), 1) := by decide +kernel
theorem dX3_siding_53 : decode cX3_siding 53 = .ok (.ireturn, 1) := by decide +kernel
theorem dX3_event_0 : decode cX3_event 0 = .ok (.aload_n 0, 1) := by decide +kernel
theorem dX3_event_1 : decode cX3_event 1 = .ok (.iload_n 1, 1) := by decide +kernel
theorem dX3_event_2 : decode cX3_event 2 = .ok (.ifCond .lt 18, 3) := by decide +kernel
theorem dX3_event_5 : decode cX3_event 5 = .ok (.iload_n 1, 1) := by decide +kernel
theorem dX3_event_6 : decode cX3_event 6 = .ok (.sipush 200, 3) := by decide +kernel
theorem dX3_event_9 : decode cX3_event 9 = .ok (.if_icmp .ge 11, 3) := by decide +kernel
theorem dX3_event_12 : decode cX3_event 12 = .ok (.iload_n 1, 1) := by decide +kernel
theorem dX3_event_13 : decode cX3_event 13 = .ok (.aload_n 0, 1) := by decide +kernel
theorem dX3_event_14 : decode cX3_event 14 = .ok (.getfield 128, 3) := by decide +kernel
theorem dX3_event_17 : decode cX3_event 17 = .ok (.if_icmp .lt 7, 3) := by decide +kernel
theorem dX3_event_20 : decode cX3_event 20 = .ok (.iconst 1, 1) := by decide +kernel
theorem dX3_event_21 : decode cX3_event 21 = .ok (.goto 17, 3) := by decide +kernel
theorem dX3_event_24 : decode cX3_event 24 = .ok (.iload_n 2, 1) := by decide +kernel
theorem dX3_event_25 : decode cX3_event 25 = .ok (.ifCond .lt 8, 3) := by decide +kernel
theorem dX3_event_28 : decode cX3_event 28 = .ok (.iload_n 2, 1) := by decide +kernel
theorem dX3_event_29 : decode cX3_event 29 = .ok (.iconst 3, 1) := by decide +kernel
theorem dX3_event_30 : decode cX3_event 30 = .ok (.if_icmp .le 7, 3) := by decide +kernel
theorem dX3_event_33 : decode cX3_event 33 = .ok (.iconst 2, 1) := by decide +kernel
theorem dX3_event_34 : decode cX3_event 34 = .ok (.goto 4, 3) := by decide +kernel
theorem dX3_event_37 : decode cX3_event 37 = .ok (.iconst 0, 1) := by decide +kernel
theorem dX3_event_38 : decode cX3_event 38 = .ok (.invokevirtual 83, 3) := by decide +kernel
theorem dX3_event_41 : decode cX3_event 41 = .ok (.ifCond .eq 5, 3) := by decide +kernel
theorem dX3_event_44 : decode cX3_event 44 = .ok (.iconst 0, 1) := by decide +kernel
theorem dX3_event_45 : decode cX3_event 45 = .ok (.ireturn, 1) := by decide +kernel
theorem dX3_event_46 : decode cX3_event 46 = .ok (.aload_n 0, 1) := by decide +kernel
theorem dX3_event_47 : decode cX3_event 47 = .ok (.getfield 63, 3) := by decide +kernel
theorem dX3_event_50 : decode cX3_event 50 = .ok (.iconst 4, 1) := by decide +kernel
theorem dX3_event_51 : decode cX3_event 51 = .ok (.aload_n 0, 1) := by decide +kernel
theorem dX3_event_52 : decode cX3_event 52 = .ok (.getfield 128, 3) := by decide +kernel
theorem dX3_event_55 : decode cX3_event 55 = .ok (.iconst 1, 1) := by decide +kernel
theorem dX3_event_56 : decode cX3_event 56 = .ok (.isub, 1) := by decide +kernel
theorem dX3_event_57 : decode cX3_event 57 = .ok (.iload_n 1, 1) := by decide +kernel
theorem dX3_event_58 : decode cX3_event 58 = .ok (.isub, 1) := by decide +kernel
theorem dX3_event_59 : decode cX3_event 59 = .ok (.sipush 200, 3) := by decide +kernel
theorem dX3_event_62 : decode cX3_event 62 = .ok (.irem, 1) := by decide +kernel
theorem dX3_event_63 : decode cX3_event 63 = .ok (.imul, 1) := by decide +kernel
theorem dX3_event_64 : decode cX3_event 64 = .ok (.iload_n 2, 1) := by decide +kernel
theorem dX3_event_65 : decode cX3_event 65 = .ok (.iadd, 1) := by decide +kernel
theorem dX3_event_66 : decode cX3_event 66 = .ok (.iaload, 1) := by decide +kernel
theorem dX3_event_67 : decode cX3_event 67 = .ok (.ireturn, 1) := by decide +kernel
theorem dX3_about_0 : decode cX3_about 0 = .ok (.aload_n 0, 1) := by decide +kernel
theorem dX3_about_1 : decode cX3_about 1 = .ok (.iload_n 1, 1) := by decide +kernel
theorem dX3_about_2 : decode cX3_about 2 = .ok (.ifCond .lt 9, 3) := by decide +kernel
theorem dX3_about_5 : decode cX3_about 5 = .ok (.iload_n 1, 1) := by decide +kernel
theorem dX3_about_6 : decode cX3_about 6 = .ok (.bipush 6, 2) := by decide +kernel
theorem dX3_about_8 : decode cX3_about 8 = .ok (.if_icmp .le 7, 3) := by decide +kernel
theorem dX3_about_11 : decode cX3_about 11 = .ok (.iconst 1, 1) := by decide +kernel
theorem dX3_about_12 : decode cX3_about 12 = .ok (.goto 4, 3) := by decide +kernel
theorem dX3_about_15 : decode cX3_about 15 = .ok (.iconst 0, 1) := by decide +kernel
theorem dX3_about_16 : decode cX3_about 16 = .ok (.invokevirtual 83, 3) := by decide +kernel
theorem dX3_about_19 : decode cX3_about 19 = .ok (.ifCond .eq 5, 3) := by decide +kernel
theorem dX3_about_22 : decode cX3_about 22 = .ok (.iconst 0, 1) := by decide +kernel
theorem dX3_about_23 : decode cX3_about 23 = .ok (.ireturn, 1) := by decide +kernel
theorem dX3_about_24 : decode cX3_about 24 = .ok (.iconst 0, 1) := by decide +kernel
theorem dX3_about_25 : decode cX3_about 25 = .ok (.istore_n 2, 1) := by decide +kernel
theorem dX3_about_26 : decode cX3_about 26 = .ok (.iconst 0, 1) := by decide +kernel
theorem dX3_about_27 : decode cX3_about 27 = .ok (.istore_n 3, 1) := by decide +kernel
theorem dX3_about_28 : decode cX3_about 28 = .ok (.iload_n 3, 1) := by decide +kernel
theorem dX3_about_29 : decode cX3_about 29 = .ok (.aload_n 0, 1) := by decide +kernel
theorem dX3_about_30 : decode cX3_about 30 = .ok (.getfield 80, 3) := by decide +kernel
theorem dX3_about_33 : decode cX3_about 33 = .ok (.if_icmp .ge 38, 3) := by decide +kernel
theorem dX3_about_36 : decode cX3_about 36 = .ok (.iload_n 2, 1) := by decide +kernel
theorem dX3_about_37 : decode cX3_about 37 = .ok (.iload_n 1, 1) := by decide +kernel
theorem dX3_about_38 : decode cX3_about 38 = .ok (.ifCond .le 24, 3) := by decide +kernel
theorem dX3_about_41 : decode cX3_about 41 = .ok (.iload_n 1, 1) := by decide +kernel
theorem dX3_about_42 : decode cX3_about 42 = .ok (.iconst 5, 1) := by decide +kernel
theorem dX3_about_43 : decode cX3_about 43 = .ok (.if_icmp .ge 19, 3) := by decide +kernel
theorem dX3_about_46 : decode cX3_about 46 = .ok (.aload_n 0, 1) := by decide +kernel
theorem dX3_about_47 : decode cX3_about 47 = .ok (.getfield 7, 3) := by decide +kernel
theorem dX3_about_50 : decode cX3_about 50 = .ok (.iload_n 3, 1) := by decide +kernel
theorem dX3_about_51 : decode cX3_about 51 = .ok (.iaload, 1) := by decide +kernel
theorem dX3_about_52 : decode cX3_about 52 = .ok (.iload_n 1, 1) := by decide +kernel
theorem dX3_about_53 : decode cX3_about 53 = .ok (.iconst 1, 1) := by decide +kernel
theorem dX3_about_54 : decode cX3_about 54 = .ok (.isub, 1) := by decide +kernel
theorem dX3_about_55 : decode cX3_about 55 = .ok (.if_icmp .ne 7, 3) := by decide +kernel
theorem dX3_about_58 : decode cX3_about 58 = .ok (.iconst 1, 1) := by decide +kernel
theorem dX3_about_59 : decode cX3_about 59 = .ok (.goto 4, 3) := by decide +kernel
theorem dX3_about_62 : decode cX3_about 62 = .ok (.iconst 0, 1) := by decide +kernel
theorem dX3_about_63 : decode cX3_about 63 = .ok (.iadd, 1) := by decide +kernel
theorem dX3_about_64 : decode cX3_about 64 = .ok (.istore_n 2, 1) := by decide +kernel
theorem dX3_about_65 : decode cX3_about 65 = .ok (.iinc 3 1, 3) := by decide +kernel
theorem dX3_about_68 : decode cX3_about 68 = .ok (.goto (-40), 3) := by decide +kernel
theorem dX3_about_71 : decode cX3_about 71 = .ok (.iload_n 1, 1) := by decide +kernel
theorem dX3_about_72 : decode cX3_about 72 = .ok (.ifCond .ne 10, 3) := by decide +kernel
theorem dX3_about_75 : decode cX3_about 75 = .ok (.aload_n 0, 1) := by decide +kernel
theorem dX3_about_76 : decode cX3_about 76 = .ok (.getfield 80, 3) := by decide +kernel
theorem dX3_about_79 : decode cX3_about 79 = .ok (.goto 29, 3) := by decide +kernel
theorem dX3_about_82 : decode cX3_about 82 = .ok (.iload_n 1, 1) := by decide +kernel
theorem dX3_about_83 : decode cX3_about 83 = .ok (.iconst 5, 1) := by decide +kernel
theorem dX3_about_84 : decode cX3_about 84 = .ok (.if_icmp .ne 10, 3) := by decide +kernel
theorem dX3_about_87 : decode cX3_about 87 = .ok (.aload_n 0, 1) := by decide +kernel
theorem dX3_about_88 : decode cX3_about 88 = .ok (.getfield 128, 3) := by decide +kernel
theorem dX3_about_91 : decode cX3_about 91 = .ok (.goto 17, 3) := by decide +kernel
theorem dX3_about_94 : decode cX3_about 94 = .ok (.iload_n 1, 1) := by decide +kernel
theorem dX3_about_95 : decode cX3_about 95 = .ok (.bipush 6, 2) := by decide +kernel
theorem dX3_about_97 : decode cX3_about 97 = .ok (.if_icmp .ne 10, 3) := by decide +kernel
theorem dX3_about_100 : decode cX3_about 100 = .ok (.aload_n 0, 1) := by decide +kernel
theorem dX3_about_101 : decode cX3_about 101 = .ok (.getfield 131, 3) := by decide +kernel
theorem dX3_about_104 : decode cX3_about 104 = .ok (.goto 4, 3) := by decide +kernel
theorem dX3_about_107 : decode cX3_about 107 = .ok (.iload_n 2, 1) := by decide +kernel
theorem dX3_about_108 : decode cX3_about 108 = .ok (.ireturn, 1) := by decide +kernel
theorem dX3_fastest_0 : decode cX3_fastest 0 = .ok (.aload_n 0, 1) := by decide +kernel
theorem dX3_fastest_1 : decode cX3_fastest 1 = .ok (.iconst 0, 1) := by decide +kernel
theorem dX3_fastest_2 : decode cX3_fastest 2 = .ok (.putfield 70, 3) := by decide +kernel
theorem dX3_fastest_5 : decode cX3_fastest 5 = .ok (.aload_n 0, 1) := by decide +kernel
theorem dX3_fastest_6 : decode cX3_fastest 6 = .ok (.getfield 179, 3) := by decide +kernel
theorem dX3_fastest_9 : decode cX3_fastest 9 = .ok (.dreturn, 1) := by decide +kernel
end
section
theorem dX0_init_0 : decode cX0_init 0 = .ok (.aload_n 0, 1) := by decide +kernel
theorem dX0_init_1 : decode cX0_init 1 = .ok (.invokespecial 3, 3) := by decide +kernel
theorem dX0_init_4 : decode cX0_init 4 = .ok (.aload_n 0, 1) := by decide +kernel
theorem dX0_init_5 : decode cX0_init 5 = .ok (.iconst 0, 1) := by decide +kernel
theorem dX0_init_6 : decode cX0_init 6 = .ok (.putfield 9, 3) := by decide +kernel
theorem dX0_init_9 : decode cX0_init 9 = .ok (.aload_n 0, 1) := by decide +kernel
theorem dX0_init_10 : decode cX0_init 10 = .ok (.dconst 0, 1) := by decide +kernel
theorem dX0_init_11 : decode cX0_init 11 = .ok (.putfield 15, 3) := by decide +kernel
theorem dX0_init_14 : decode cX0_init 14 = .ok (.aload_n 0, 1) := by decide +kernel
theorem dX0_init_15 : decode cX0_init 15 = .ok (.dconst 0, 1) := by decide +kernel
theorem dX0_init_16 : decode cX0_init 16 = .ok (.putfield 19, 3) := by decide +kernel
theorem dX0_init_19 : decode cX0_init 19 = .ok (.aload_n 0, 1) := by decide +kernel
theorem dX0_init_20 : decode cX0_init 20 = .ok (.iconst 0, 1) := by decide +kernel
theorem dX0_init_21 : decode cX0_init 21 = .ok (.putfield 22, 3) := by decide +kernel
theorem dX0_init_24 : decode cX0_init 24 = .ok (.aload_n 0, 1) := by decide +kernel
theorem dX0_init_25 : decode cX0_init 25 = .ok (.iconst (-1), 1) := by decide +kernel
theorem dX0_init_26 : decode cX0_init 26 = .ok (.putfield 25, 3) := by decide +kernel
theorem dX0_init_29 : decode cX0_init 29 = .ok (.aload_n 0, 1) := by decide +kernel
theorem dX0_init_30 : decode cX0_init 30 = .ok (.iload_n 1, 1) := by decide +kernel
theorem dX0_init_31 : decode cX0_init 31 = .ok (.putfield 28, 3) := by decide +kernel
theorem dX0_init_34 : decode cX0_init 34 = .ok (.aload_n 0, 1) := by decide +kernel
theorem dX0_init_35 : decode cX0_init 35 = .ok (.ldc2_w 31, 3) := by decide +kernel
theorem dX0_init_38 : decode cX0_init 38 = .ok (.iload_n 2, 1) := by decide +kernel
theorem dX0_init_39 : decode cX0_init 39 = .ok (.i2d, 1) := by decide +kernel
theorem dX0_init_40 : decode cX0_init 40 = .ok (.dmul, 1) := by decide +kernel
theorem dX0_init_41 : decode cX0_init 41 = .ok (.putfield 33, 3) := by decide +kernel
theorem dX0_init_44 : decode cX0_init 44 = .ok (.aload_n 0, 1) := by decide +kernel
theorem dX0_init_45 : decode cX0_init 45 = .ok (.iload_n 2, 1) := by decide +kernel
theorem dX0_init_46 : decode cX0_init 46 = .ok (.iload_n 3, 1) := by decide +kernel
theorem dX0_init_47 : decode cX0_init 47 = .ok (.imul, 1) := by decide +kernel
theorem dX0_init_48 : decode cX0_init 48 = .ok (.i2d, 1) := by decide +kernel
theorem dX0_init_49 : decode cX0_init 49 = .ok (.putfield 36, 3) := by decide +kernel
theorem dX0_init_52 : decode cX0_init 52 = .ok (.aload_n 0, 1) := by decide +kernel
theorem dX0_init_53 : decode cX0_init 53 = .ok (.dload 4, 2) := by decide +kernel
theorem dX0_init_55 : decode cX0_init 55 = .ok (.putfield 39, 3) := by decide +kernel
theorem dX0_init_58 : decode cX0_init 58 = .ok (.aload_n 0, 1) := by decide +kernel
theorem dX0_init_59 : decode cX0_init 59 = .ok (.bipush 7, 2) := by decide +kernel
theorem dX0_init_61 : decode cX0_init 61 = .ok (.iload 6, 2) := by decide +kernel
theorem dX0_init_63 : decode cX0_init 63 = .ok (.iadd, 1) := by decide +kernel
theorem dX0_init_64 : decode cX0_init 64 = .ok (.putfield 42, 3) := by decide +kernel
theorem dX0_init_67 : decode cX0_init 67 = .ok (.return_, 1) := by decide +kernel
theorem dX0_rear_0 : decode cX0_rear 0 = .ok (.aload_n 0, 1) := by decide +kernel
theorem dX0_rear_1 : decode cX0_rear 1 = .ok (.getfield 15, 3) := by decide +kernel
theorem dX0_rear_4 : decode cX0_rear 4 = .ok (.aload_n 0, 1) := by decide +kernel
theorem dX0_rear_5 : decode cX0_rear 5 = .ok (.getfield 33, 3) := by decide +kernel
theorem dX0_rear_8 : decode cX0_rear 8 = .ok (.dsub, 1) := by decide +kernel
theorem dX0_rear_9 : decode cX0_rear 9 = .ok (.dreturn, 1) := by decide +kernel
theorem dX0_isBoundFor_0 : decode cX0_isBoundFor 0 = .ok (.aload_n 0, 1) := by decide +kernel
theorem dX0_isBoundFor_1 : decode cX0_isBoundFor 1 = .ok (.getfield 22, 3) := by decide +kernel
theorem dX0_isBoundFor_4 : decode cX0_isBoundFor 4 = .ok (.iload_n 1, 1) := by decide +kernel
theorem dX0_isBoundFor_5 : decode cX0_isBoundFor 5 = .ok (.invokestatic 45, 3) := by decide +kernel
theorem dX0_isBoundFor_8 : decode cX0_isBoundFor 8 = .ok (.ifCond .eq 18, 3) := by decide +kernel
theorem dX0_isBoundFor_11 : decode cX0_isBoundFor 11 = .ok (.iload_n 1, 1) := by decide +kernel
theorem dX0_isBoundFor_12 : decode cX0_isBoundFor 12 = .ok (.aload_n 0, 1) := by decide +kernel
theorem dX0_isBoundFor_13 : decode cX0_isBoundFor 13 = .ok (.getfield 42, 3) := by decide +kernel
theorem dX0_isBoundFor_16 : decode cX0_isBoundFor 16 = .ok (.invokestatic 45, 3) := by decide +kernel
theorem dX0_isBoundFor_19 : decode cX0_isBoundFor 19 = .ok (.ifCond .eq 7, 3) := by decide +kernel
theorem dX0_isBoundFor_22 : decode cX0_isBoundFor 22 = .ok (.iconst 1, 1) := by decide +kernel
theorem dX0_isBoundFor_23 : decode cX0_isBoundFor 23 = .ok (.goto 4, 3) := by decide +kernel
theorem dX0_isBoundFor_26 : decode cX0_isBoundFor 26 = .ok (.iconst 0, 1) := by decide +kernel
theorem dX0_isBoundFor_27 : decode cX0_isBoundFor 27 = .ok (.ireturn, 1) := by decide +kernel
theorem dX0_wishedSide_0 : decode cX0_wishedSide 0 = .ok (.iload_n 1, 1) := by decide +kernel
theorem dX0_wishedSide_1 : decode cX0_wishedSide 1 = .ok (.iconst 1, 1) := by decide +kernel
theorem dX0_wishedSide_2 : decode cX0_wishedSide 2 = .ok (.invokestatic 49, 3) := by decide +kernel
theorem dX0_wishedSide_5 : decode cX0_wishedSide 5 = .ok (.aload_n 0, 1) := by decide +kernel
theorem dX0_wishedSide_6 : decode cX0_wishedSide 6 = .ok (.getfield 42, 3) := by decide +kernel
theorem dX0_wishedSide_9 : decode cX0_wishedSide 9 = .ok (.invokestatic 45, 3) := by decide +kernel
theorem dX0_wishedSide_12 : decode cX0_wishedSide 12 = .ok (.ifCond .eq 7, 3) := by decide +kernel
theorem dX0_wishedSide_15 : decode cX0_wishedSide 15 = .ok (.iconst 1, 1) := by decide +kernel
theorem dX0_wishedSide_16 : decode cX0_wishedSide 16 = .ok (.goto 4, 3) := by decide +kernel
theorem dX0_wishedSide_19 : decode cX0_wishedSide 19 = .ok (.iconst 0, 1) := by decide +kernel
theorem dX0_wishedSide_20 : decode cX0_wishedSide 20 = .ok (.ireturn, 1) := by decide +kernel
theorem dX1_init_0 : decode cX1_init 0 = .ok (.aload_n 0, 1) := by decide +kernel
theorem dX1_init_1 : decode cX1_init 1 = .ok (.invokespecial 3, 3) := by decide +kernel
theorem dX1_init_4 : decode cX1_init 4 = .ok (.aload_n 0, 1) := by decide +kernel
theorem dX1_init_5 : decode cX1_init 5 = .ok (.sipush 800, 3) := by decide +kernel
theorem dX1_init_8 : decode cX1_init 8 = .ok (.newarray .int, 2) := by decide +kernel
theorem dX1_init_10 : decode cX1_init 10 = .ok (.putfield 9, 3) := by decide +kernel
theorem dX1_init_13 : decode cX1_init 13 = .ok (.aload_n 0, 1) := by decide +kernel
theorem dX1_init_14 : decode cX1_init 14 = .ok (.iconst 0, 1) := by decide +kernel
theorem dX1_init_15 : decode cX1_init 15 = .ok (.putfield 15, 3) := by decide +kernel
theorem dX1_init_18 : decode cX1_init 18 = .ok (.return_, 1) := by decide +kernel
theorem dX1_note_0 : decode cX1_note 0 = .ok (.aload_n 0, 1) := by decide +kernel
theorem dX1_note_1 : decode cX1_note 1 = .ok (.getfield 15, 3) := by decide +kernel
theorem dX1_note_4 : decode cX1_note 4 = .ok (.sipush 200, 3) := by decide +kernel
theorem dX1_note_7 : decode cX1_note 7 = .ok (.invokestatic 19, 3) := by decide +kernel
theorem dX1_note_10 : decode cX1_note 10 = .ok (.iconst 4, 1) := by decide +kernel
theorem dX1_note_11 : decode cX1_note 11 = .ok (.imul, 1) := by decide +kernel
theorem dX1_note_12 : decode cX1_note 12 = .ok (.istore 5, 2) := by decide +kernel
theorem dX1_note_14 : decode cX1_note 14 = .ok (.aload_n 0, 1) := by decide +kernel
theorem dX1_note_15 : decode cX1_note 15 = .ok (.getfield 9, 3) := by decide +kernel
theorem dX1_note_18 : decode cX1_note 18 = .ok (.iload 5, 2) := by decide +kernel
theorem dX1_note_20 : decode cX1_note 20 = .ok (.iload_n 1, 1) := by decide +kernel
theorem dX1_note_21 : decode cX1_note 21 = .ok (.iastore, 1) := by decide +kernel
theorem dX1_note_22 : decode cX1_note 22 = .ok (.aload_n 0, 1) := by decide +kernel
theorem dX1_note_23 : decode cX1_note 23 = .ok (.getfield 9, 3) := by decide +kernel
theorem dX1_note_26 : decode cX1_note 26 = .ok (.iload 5, 2) := by decide +kernel
theorem dX1_note_28 : decode cX1_note 28 = .ok (.iconst 1, 1) := by decide +kernel
theorem dX1_note_29 : decode cX1_note 29 = .ok (.iadd, 1) := by decide +kernel
theorem dX1_note_30 : decode cX1_note 30 = .ok (.iload_n 2, 1) := by decide +kernel
theorem dX1_note_31 : decode cX1_note 31 = .ok (.iastore, 1) := by decide +kernel
theorem dX1_note_32 : decode cX1_note 32 = .ok (.aload_n 0, 1) := by decide +kernel
theorem dX1_note_33 : decode cX1_note 33 = .ok (.getfield 9, 3) := by decide +kernel
theorem dX1_note_36 : decode cX1_note 36 = .ok (.iload 5, 2) := by decide +kernel
theorem dX1_note_38 : decode cX1_note 38 = .ok (.iconst 2, 1) := by decide +kernel
theorem dX1_note_39 : decode cX1_note 39 = .ok (.iadd, 1) := by decide +kernel
theorem dX1_note_40 : decode cX1_note 40 = .ok (.iload_n 3, 1) := by decide +kernel
theorem dX1_note_41 : decode cX1_note 41 = .ok (.iastore, 1) := by decide +kernel
theorem dX1_note_42 : decode cX1_note 42 = .ok (.aload_n 0, 1) := by decide +kernel
theorem dX1_note_43 : decode cX1_note 43 = .ok (.getfield 9, 3) := by decide +kernel
theorem dX1_note_46 : decode cX1_note 46 = .ok (.iload 5, 2) := by decide +kernel
theorem dX1_note_48 : decode cX1_note 48 = .ok (.iconst 3, 1) := by decide +kernel
theorem dX1_note_49 : decode cX1_note 49 = .ok (.iadd, 1) := by decide +kernel
theorem dX1_note_50 : decode cX1_note 50 = .ok (.iload 4, 2) := by decide +kernel
theorem dX1_note_52 : decode cX1_note 52 = .ok (.iastore, 1) := by decide +kernel
theorem dX1_note_53 : decode cX1_note 53 = .ok (.aload_n 0, 1) := by decide +kernel
theorem dX1_note_54 : decode cX1_note 54 = .ok (.dup, 1) := by decide +kernel
theorem dX1_note_55 : decode cX1_note 55 = .ok (.getfield 15, 3) := by decide +kernel
theorem dX1_note_58 : decode cX1_note 58 = .ok (.iconst 1, 1) := by decide +kernel
theorem dX1_note_59 : decode cX1_note 59 = .ok (.iadd, 1) := by decide +kernel
theorem dX1_note_60 : decode cX1_note 60 = .ok (.putfield 15, 3) := by decide +kernel
theorem dX1_note_63 : decode cX1_note 63 = .ok (.return_, 1) := by decide +kernel
theorem dX1_keeps_0 : decode cX1_keeps 0 = .ok (.iload_n 1, 1) := by decide +kernel
theorem dX1_keeps_1 : decode cX1_keeps 1 = .ok (.ifCond .lt 22, 3) := by decide +kernel
theorem dX1_keeps_4 : decode cX1_keeps 4 = .ok (.iload_n 1, 1) := by decide +kernel
theorem dX1_keeps_5 : decode cX1_keeps 5 = .ok (.sipush 200, 3) := by decide +kernel
theorem dX1_keeps_8 : decode cX1_keeps 8 = .ok (.if_icmp .ge 15, 3) := by decide +kernel
theorem dX1_keeps_11 : decode cX1_keeps 11 = .ok (.iload_n 1, 1) := by decide +kernel
theorem dX1_keeps_12 : decode cX1_keeps 12 = .ok (.aload_n 0, 1) := by decide +kernel
theorem dX1_keeps_13 : decode cX1_keeps 13 = .ok (.getfield 15, 3) := by decide +kernel
theorem dX1_keeps_16 : decode cX1_keeps 16 = .ok (.if_icmp .ge 7, 3) := by decide +kernel
theorem dX1_keeps_19 : decode cX1_keeps 19 = .ok (.iconst 1, 1) := by decide +kernel
theorem dX1_keeps_20 : decode cX1_keeps 20 = .ok (.goto 4, 3) := by decide +kernel
theorem dX1_keeps_23 : decode cX1_keeps 23 = .ok (.iconst 0, 1) := by decide +kernel
theorem dX1_keeps_24 : decode cX1_keeps 24 = .ok (.ireturn, 1) := by decide +kernel
theorem dX1_number_0 : decode cX1_number 0 = .ok (.aload_n 0, 1) := by decide +kernel
theorem dX1_number_1 : decode cX1_number 1 = .ok (.getfield 9, 3) := by decide +kernel
theorem dX1_number_4 : decode cX1_number 4 = .ok (.aload_n 0, 1) := by decide +kernel
theorem dX1_number_5 : decode cX1_number 5 = .ok (.getfield 15, 3) := by decide +kernel
theorem dX1_number_8 : decode cX1_number 8 = .ok (.iconst 1, 1) := by decide +kernel
theorem dX1_number_9 : decode cX1_number 9 = .ok (.isub, 1) := by decide +kernel
theorem dX1_number_10 : decode cX1_number 10 = .ok (.iload_n 1, 1) := by decide +kernel
theorem dX1_number_11 : decode cX1_number 11 = .ok (.isub, 1) := by decide +kernel
theorem dX1_number_12 : decode cX1_number 12 = .ok (.sipush 200, 3) := by decide +kernel
theorem dX1_number_15 : decode cX1_number 15 = .ok (.invokestatic 19, 3) := by decide +kernel
theorem dX1_number_18 : decode cX1_number 18 = .ok (.iconst 4, 1) := by decide +kernel
theorem dX1_number_19 : decode cX1_number 19 = .ok (.imul, 1) := by decide +kernel
theorem dX1_number_20 : decode cX1_number 20 = .ok (.iload_n 2, 1) := by decide +kernel
theorem dX1_number_21 : decode cX1_number 21 = .ok (.iadd, 1) := by decide +kernel
theorem dX1_number_22 : decode cX1_number 22 = .ok (.iaload, 1) := by decide +kernel
theorem dX1_number_23 : decode cX1_number 23 = .ok (.ireturn, 1) := by decide +kernel
theorem dX2_init_0 : decode cX2_init 0 = .ok (.aload_n 0, 1) := by decide +kernel
theorem dX2_init_1 : decode cX2_init 1 = .ok (.invokespecial 1, 3) := by decide +kernel
theorem dX2_init_4 : decode cX2_init 4 = .ok (.aload_n 0, 1) := by decide +kernel
theorem dX2_init_5 : decode cX2_init 5 = .ok (.new 7, 3) := by decide +kernel
theorem dX2_init_8 : decode cX2_init 8 = .ok (.dup, 1) := by decide +kernel
theorem dX2_init_9 : decode cX2_init 9 = .ok (.invokespecial 9, 3) := by decide +kernel
theorem dX2_init_12 : decode cX2_init 12 = .ok (.putfield 10, 3) := by decide +kernel
theorem dX2_init_15 : decode cX2_init 15 = .ok (.aload_n 0, 1) := by decide +kernel
theorem dX2_init_16 : decode cX2_init 16 = .ok (.new 7, 3) := by decide +kernel
theorem dX2_init_19 : decode cX2_init 19 = .ok (.dup, 1) := by decide +kernel
theorem dX2_init_20 : decode cX2_init 20 = .ok (.invokespecial 9, 3) := by decide +kernel
theorem dX2_init_23 : decode cX2_init 23 = .ok (.putfield 16, 3) := by decide +kernel
theorem dX2_init_26 : decode cX2_init 26 = .ok (.aload_n 0, 1) := by decide +kernel
theorem dX2_init_27 : decode cX2_init 27 = .ok (.new 19, 3) := by decide +kernel
theorem dX2_init_30 : decode cX2_init 30 = .ok (.dup, 1) := by decide +kernel
theorem dX2_init_31 : decode cX2_init 31 = .ok (.invokespecial 21, 3) := by decide +kernel
theorem dX2_init_34 : decode cX2_init 34 = .ok (.putfield 22, 3) := by decide +kernel
theorem dX2_init_37 : decode cX2_init 37 = .ok (.aload_n 0, 1) := by decide +kernel
theorem dX2_init_38 : decode cX2_init 38 = .ok (.bipush 7, 2) := by decide +kernel
theorem dX2_init_40 : decode cX2_init 40 = .ok (.newarray .int, 2) := by decide +kernel
theorem dX2_init_42 : decode cX2_init 42 = .ok (.putfield 26, 3) := by decide +kernel
theorem dX2_init_45 : decode cX2_init 45 = .ok (.aload_n 0, 1) := by decide +kernel
theorem dX2_init_46 : decode cX2_init 46 = .ok (.bipush 7, 2) := by decide +kernel
theorem dX2_init_48 : decode cX2_init 48 = .ok (.newarray .int, 2) := by decide +kernel
theorem dX2_init_50 : decode cX2_init 50 = .ok (.putfield 30, 3) := by decide +kernel
theorem dX2_init_53 : decode cX2_init 53 = .ok (.aload_n 0, 1) := by decide +kernel
theorem dX2_init_54 : decode cX2_init 54 = .ok (.bipush 7, 2) := by decide +kernel
theorem dX2_init_56 : decode cX2_init 56 = .ok (.newarray .boolean, 2) := by decide +kernel
theorem dX2_init_58 : decode cX2_init 58 = .ok (.putfield 33, 3) := by decide +kernel
theorem dX2_init_61 : decode cX2_init 61 = .ok (.aload_n 0, 1) := by decide +kernel
theorem dX2_init_62 : decode cX2_init 62 = .ok (.bipush 9, 2) := by decide +kernel
theorem dX2_init_64 : decode cX2_init 64 = .ok (.newarray .double, 2) := by decide +kernel
theorem dX2_init_66 : decode cX2_init 66 = .ok (.putfield 37, 3) := by decide +kernel
theorem dX2_init_69 : decode cX2_init 69 = .ok (.aload_n 0, 1) := by decide +kernel
theorem dX2_init_70 : decode cX2_init 70 = .ok (.bipush 8, 2) := by decide +kernel
theorem dX2_init_72 : decode cX2_init 72 = .ok (.newarray .double, 2) := by decide +kernel
theorem dX2_init_74 : decode cX2_init 74 = .ok (.putfield 41, 3) := by decide +kernel
theorem dX2_init_77 : decode cX2_init 77 = .ok (.aload_n 0, 1) := by decide +kernel
theorem dX2_init_78 : decode cX2_init 78 = .ok (.bipush 8, 2) := by decide +kernel
theorem dX2_init_80 : decode cX2_init 80 = .ok (.newarray .int, 2) := by decide +kernel
theorem dX2_init_82 : decode cX2_init 82 = .ok (.putfield 44, 3) := by decide +kernel
theorem dX2_init_85 : decode cX2_init 85 = .ok (.aload_n 0, 1) := by decide +kernel
theorem dX2_init_86 : decode cX2_init 86 = .ok (.sipush 480, 3) := by decide +kernel
theorem dX2_init_89 : decode cX2_init 89 = .ok (.newarray .int, 2) := by decide +kernel
theorem dX2_init_91 : decode cX2_init 91 = .ok (.putfield 47, 3) := by decide +kernel
theorem dX2_init_94 : decode cX2_init 94 = .ok (.aload_n 0, 1) := by decide +kernel
theorem dX2_init_95 : decode cX2_init 95 = .ok (.dconst 0, 1) := by decide +kernel
theorem dX2_init_96 : decode cX2_init 96 = .ok (.putfield 50, 3) := by decide +kernel
theorem dX2_init_99 : decode cX2_init 99 = .ok (.aload_n 0, 1) := by decide +kernel
theorem dX2_init_100 : decode cX2_init 100 = .ok (.dconst 0, 1) := by decide +kernel
theorem dX2_init_101 : decode cX2_init 101 = .ok (.putfield 54, 3) := by decide +kernel
theorem dX2_init_104 : decode cX2_init 104 = .ok (.aload_n 0, 1) := by decide +kernel
theorem dX2_init_105 : decode cX2_init 105 = .ok (.iconst 0, 1) := by decide +kernel
theorem dX2_init_106 : decode cX2_init 106 = .ok (.putfield 57, 3) := by decide +kernel
theorem dX2_init_109 : decode cX2_init 109 = .ok (.aload_n 0, 1) := by decide +kernel
theorem dX2_init_110 : decode cX2_init 110 = .ok (.iconst 0, 1) := by decide +kernel
theorem dX2_init_111 : decode cX2_init 111 = .ok (.putfield 61, 3) := by decide +kernel
theorem dX2_init_114 : decode cX2_init 114 = .ok (.aload_n 0, 1) := by decide +kernel
theorem dX2_init_115 : decode cX2_init 115 = .ok (.iconst 0, 1) := by decide +kernel
theorem dX2_init_116 : decode cX2_init 116 = .ok (.putfield 64, 3) := by decide +kernel
theorem dX2_init_119 : decode cX2_init 119 = .ok (.aload_n 0, 1) := by decide +kernel
theorem dX2_init_120 : decode cX2_init 120 = .ok (.iconst 0, 1) := by decide +kernel
theorem dX2_init_121 : decode cX2_init 121 = .ok (.putfield 67, 3) := by decide +kernel
theorem dX2_init_124 : decode cX2_init 124 = .ok (.aload_n 0, 1) := by decide +kernel
theorem dX2_init_125 : decode cX2_init 125 = .ok (.getfield 37, 3) := by decide +kernel
theorem dX2_init_128 : decode cX2_init 128 = .ok (.ldc2_w 70, 3) := by decide +kernel
theorem dX2_init_131 : decode cX2_init 131 = .ok (.invokestatic 72, 3) := by decide +kernel
theorem dX2_init_134 : decode cX2_init 134 = .ok (.aload_n 0, 1) := by decide +kernel
theorem dX2_init_135 : decode cX2_init 135 = .ok (.getfield 41, 3) := by decide +kernel
theorem dX2_init_138 : decode cX2_init 138 = .ok (.ldc2_w 78, 3) := by decide +kernel
theorem dX2_init_141 : decode cX2_init 141 = .ok (.invokestatic 72, 3) := by decide +kernel
theorem dX2_init_144 : decode cX2_init 144 = .ok (.return_, 1) := by decide +kernel
theorem dX2_cut_0 : decode cX2_cut 0 = .ok (.iload_n 1, 1) := by decide +kernel
theorem dX2_cut_1 : decode cX2_cut 1 = .ok (.iconst 1, 1) := by decide +kernel
theorem dX2_cut_2 : decode cX2_cut 2 = .ok (.if_icmp .lt 9, 3) := by decide +kernel
theorem dX2_cut_5 : decode cX2_cut 5 = .ok (.iload_n 1, 1) := by decide +kernel
theorem dX2_cut_6 : decode cX2_cut 6 = .ok (.bipush 20, 2) := by decide +kernel
theorem dX2_cut_8 : decode cX2_cut 8 = .ok (.if_icmp .le 13, 3) := by decide +kernel
theorem dX2_cut_11 : decode cX2_cut 11 = .ok (.new 80, 3) := by decide +kernel
theorem dX2_cut_14 : decode cX2_cut 14 = .ok (.dup, 1) := by decide +kernel
theorem dX2_cut_15 : decode cX2_cut 15 = .ok (.ldc 82, 2) := by decide +kernel
theorem dX2_cut_17 : decode cX2_cut 17 = .ok (.invokespecial 84, 3) := by decide +kernel
theorem dX2_cut_20 : decode cX2_cut 20 = .ok (.athrow, 1) := by decide +kernel
theorem dX2_cut_21 : decode cX2_cut 21 = .ok (.iload_n 2, 1) := by decide +kernel
theorem dX2_cut_22 : decode cX2_cut 22 = .ok (.iconst 1, 1) := by decide +kernel
theorem dX2_cut_23 : decode cX2_cut 23 = .ok (.if_icmp .lt 9, 3) := by decide +kernel
theorem dX2_cut_26 : decode cX2_cut 26 = .ok (.iload_n 2, 1) := by decide +kernel
theorem dX2_cut_27 : decode cX2_cut 27 = .ok (.bipush 90, 2) := by decide +kernel
theorem dX2_cut_29 : decode cX2_cut 29 = .ok (.if_icmp .le 13, 3) := by decide +kernel
theorem dX2_cut_32 : decode cX2_cut 32 = .ok (.new 80, 3) := by decide +kernel
theorem dX2_cut_35 : decode cX2_cut 35 = .ok (.dup, 1) := by decide +kernel
theorem dX2_cut_36 : decode cX2_cut 36 = .ok (.ldc 87, 2) := by decide +kernel
theorem dX2_cut_38 : decode cX2_cut 38 = .ok (.invokespecial 84, 3) := by decide +kernel
theorem dX2_cut_41 : decode cX2_cut 41 = .ok (.athrow, 1) := by decide +kernel
theorem dX2_cut_42 : decode cX2_cut 42 = .ok (.dload_n 3, 1) := by decide +kernel
theorem dX2_cut_43 : decode cX2_cut 43 = .ok (.bipush 16, 2) := by decide +kernel
theorem dX2_cut_45 : decode cX2_cut 45 = .ok (.invokestatic 89, 3) := by decide +kernel
theorem dX2_cut_48 : decode cX2_cut 48 = .ok (.ifCond .ne 13, 3) := by decide +kernel
theorem dX2_cut_51 : decode cX2_cut 51 = .ok (.new 80, 3) := by decide +kernel
theorem dX2_cut_54 : decode cX2_cut 54 = .ok (.dup, 1) := by decide +kernel
theorem dX2_cut_55 : decode cX2_cut 55 = .ok (.ldc 93, 2) := by decide +kernel
theorem dX2_cut_57 : decode cX2_cut 57 = .ok (.invokespecial 84, 3) := by decide +kernel
theorem dX2_cut_60 : decode cX2_cut 60 = .ok (.athrow, 1) := by decide +kernel
theorem dX2_cut_61 : decode cX2_cut 61 = .ok (.iload 5, 2) := by decide +kernel
theorem dX2_cut_63 : decode cX2_cut 63 = .ok (.invokestatic 95, 3) := by decide +kernel
theorem dX2_cut_66 : decode cX2_cut 66 = .ok (.ifCond .ne 13, 3) := by decide +kernel
theorem dX2_cut_69 : decode cX2_cut 69 = .ok (.new 80, 3) := by decide +kernel
theorem dX2_cut_72 : decode cX2_cut 72 = .ok (.dup, 1) := by decide +kernel
theorem dX2_cut_73 : decode cX2_cut 73 = .ok (.ldc 99, 2) := by decide +kernel
theorem dX2_cut_75 : decode cX2_cut 75 = .ok (.invokespecial 84, 3) := by decide +kernel
theorem dX2_cut_78 : decode cX2_cut 78 = .ok (.athrow, 1) := by decide +kernel
theorem dX2_cut_79 : decode cX2_cut 79 = .ok (.aload_n 0, 1) := by decide +kernel
theorem dX2_cut_80 : decode cX2_cut 80 = .ok (.getfield 10, 3) := by decide +kernel
theorem dX2_cut_83 : decode cX2_cut 83 = .ok (.invokevirtual 101, 3) := by decide +kernel
theorem dX2_cut_86 : decode cX2_cut 86 = .ok (.bipush 60, 2) := by decide +kernel
theorem dX2_cut_88 : decode cX2_cut 88 = .ok (.if_icmp .lt 13, 3) := by decide +kernel
theorem dX2_cut_91 : decode cX2_cut 91 = .ok (.new 105, 3) := by decide +kernel
theorem dX2_cut_94 : decode cX2_cut 94 = .ok (.dup, 1) := by decide +kernel
theorem dX2_cut_95 : decode cX2_cut 95 = .ok (.ldc 107, 2) := by decide +kernel
theorem dX2_cut_97 : decode cX2_cut 97 = .ok (.invokespecial 109, 3) := by decide +kernel
theorem dX2_cut_100 : decode cX2_cut 100 = .ok (.athrow, 1) := by decide +kernel
theorem dX2_cut_101 : decode cX2_cut 101 = .ok (.new 110, 3) := by decide +kernel
theorem dX2_cut_104 : decode cX2_cut 104 = .ok (.dup, 1) := by decide +kernel
theorem dX2_cut_105 : decode cX2_cut 105 = .ok (.aload_n 0, 1) := by decide +kernel
theorem dX2_cut_106 : decode cX2_cut 106 = .ok (.getfield 10, 3) := by decide +kernel
theorem dX2_cut_109 : decode cX2_cut 109 = .ok (.invokevirtual 101, 3) := by decide +kernel
theorem dX2_cut_112 : decode cX2_cut 112 = .ok (.iload_n 1, 1) := by decide +kernel
theorem dX2_cut_113 : decode cX2_cut 113 = .ok (.iload_n 2, 1) := by decide +kernel
theorem dX2_cut_114 : decode cX2_cut 114 = .ok (.dload_n 3, 1) := by decide +kernel
theorem dX2_cut_115 : decode cX2_cut 115 = .ok (.iload 5, 2) := by decide +kernel
theorem dX2_cut_117 : decode cX2_cut 117 = .ok (.invokespecial 112, 3) := by decide +kernel
theorem dX2_cut_120 : decode cX2_cut 120 = .ok (.astore 6, 2) := by decide +kernel
theorem dX2_cut_122 : decode cX2_cut 122 = .ok (.aload_n 0, 1) := by decide +kernel
theorem dX2_cut_123 : decode cX2_cut 123 = .ok (.getfield 10, 3) := by decide +kernel
theorem dX2_cut_126 : decode cX2_cut 126 = .ok (.aload 6, 2) := by decide +kernel
theorem dX2_cut_128 : decode cX2_cut 128 = .ok (.invokevirtual 115, 3) := by decide +kernel
theorem dX2_cut_131 : decode cX2_cut 131 = .ok (.pop, 1) := by decide +kernel
theorem dX2_cut_132 : decode cX2_cut 132 = .ok (.aload 6, 2) := by decide +kernel
theorem dX2_cut_134 : decode cX2_cut 134 = .ok (.getfield 119, 3) := by decide +kernel
theorem dX2_cut_137 : decode cX2_cut 137 = .ok (.ireturn, 1) := by decide +kernel
theorem dX2_push_0 : decode cX2_push 0 = .ok (.dload_n 1, 1) := by decide +kernel
theorem dX2_push_1 : decode cX2_push 1 = .ok (.iconst 4, 1) := by decide +kernel
theorem dX2_push_2 : decode cX2_push 2 = .ok (.invokestatic 89, 3) := by decide +kernel
theorem dX2_push_5 : decode cX2_push 5 = .ok (.ifCond .ne 13, 3) := by decide +kernel
theorem dX2_push_8 : decode cX2_push 8 = .ok (.new 80, 3) := by decide +kernel
theorem dX2_push_11 : decode cX2_push 11 = .ok (.dup, 1) := by decide +kernel
theorem dX2_push_12 : decode cX2_push 12 = .ok (.ldc 122, 2) := by decide +kernel
theorem dX2_push_14 : decode cX2_push 14 = .ok (.invokespecial 84, 3) := by decide +kernel
theorem dX2_push_17 : decode cX2_push 17 = .ok (.athrow, 1) := by decide +kernel
theorem dX2_push_18 : decode cX2_push 18 = .ok (.aload_n 0, 1) := by decide +kernel
theorem dX2_push_19 : decode cX2_push 19 = .ok (.getfield 50, 3) := by decide +kernel
theorem dX2_push_22 : decode cX2_push 22 = .ok (.dstore_n 3, 1) := by decide +kernel
theorem dX2_push_23 : decode cX2_push 23 = .ok (.aload_n 0, 1) := by decide +kernel
theorem dX2_push_24 : decode cX2_push 24 = .ok (.dload_n 1, 1) := by decide +kernel
theorem dX2_push_25 : decode cX2_push 25 = .ok (.putfield 50, 3) := by decide +kernel
theorem dX2_push_28 : decode cX2_push 28 = .ok (.dload_n 3, 1) := by decide +kernel
theorem dX2_push_29 : decode cX2_push 29 = .ok (.dreturn, 1) := by decide +kernel
theorem dX2_wish_0 : decode cX2_wish 0 = .ok (.iload_n 1, 1) := by decide +kernel
theorem dX2_wish_1 : decode cX2_wish 1 = .ok (.ifCond .lt 9, 3) := by decide +kernel
theorem dX2_wish_4 : decode cX2_wish 4 = .ok (.iload_n 1, 1) := by decide +kernel
theorem dX2_wish_5 : decode cX2_wish 5 = .ok (.bipush 9, 2) := by decide +kernel
theorem dX2_wish_7 : decode cX2_wish 7 = .ok (.if_icmp .lt 13, 3) := by decide +kernel
theorem dX2_wish_10 : decode cX2_wish 10 = .ok (.new 124, 3) := by decide +kernel
theorem dX2_wish_13 : decode cX2_wish 13 = .ok (.dup, 1) := by decide +kernel
theorem dX2_wish_14 : decode cX2_wish 14 = .ok (.ldc 126, 2) := by decide +kernel
theorem dX2_wish_16 : decode cX2_wish 16 = .ok (.invokespecial 128, 3) := by decide +kernel
theorem dX2_wish_19 : decode cX2_wish 19 = .ok (.athrow, 1) := by decide +kernel
theorem dX2_wish_20 : decode cX2_wish 20 = .ok (.dload_n 2, 1) := by decide +kernel
theorem dX2_wish_21 : decode cX2_wish 21 = .ok (.bipush 20, 2) := by decide +kernel
theorem dX2_wish_23 : decode cX2_wish 23 = .ok (.invokestatic 89, 3) := by decide +kernel
theorem dX2_wish_26 : decode cX2_wish 26 = .ok (.ifCond .ne 13, 3) := by decide +kernel
theorem dX2_wish_29 : decode cX2_wish 29 = .ok (.new 80, 3) := by decide +kernel
theorem dX2_wish_32 : decode cX2_wish 32 = .ok (.dup, 1) := by decide +kernel
theorem dX2_wish_33 : decode cX2_wish 33 = .ok (.ldc 129, 2) := by decide +kernel
theorem dX2_wish_35 : decode cX2_wish 35 = .ok (.invokespecial 84, 3) := by decide +kernel
theorem dX2_wish_38 : decode cX2_wish 38 = .ok (.athrow, 1) := by decide +kernel
theorem dX2_wish_39 : decode cX2_wish 39 = .ok (.aload_n 0, 1) := by decide +kernel
theorem dX2_wish_40 : decode cX2_wish 40 = .ok (.getfield 37, 3) := by decide +kernel
theorem dX2_wish_43 : decode cX2_wish 43 = .ok (.iload_n 1, 1) := by decide +kernel
theorem dX2_wish_44 : decode cX2_wish 44 = .ok (.daload, 1) := by decide +kernel
theorem dX2_wish_45 : decode cX2_wish 45 = .ok (.dstore 4, 2) := by decide +kernel
theorem dX2_wish_47 : decode cX2_wish 47 = .ok (.aload_n 0, 1) := by decide +kernel
theorem dX2_wish_48 : decode cX2_wish 48 = .ok (.getfield 37, 3) := by decide +kernel
theorem dX2_wish_51 : decode cX2_wish 51 = .ok (.iload_n 1, 1) := by decide +kernel
theorem dX2_wish_52 : decode cX2_wish 52 = .ok (.dload_n 2, 1) := by decide +kernel
theorem dX2_wish_53 : decode cX2_wish 53 = .ok (.dastore, 1) := by decide +kernel
theorem dX2_wish_54 : decode cX2_wish 54 = .ok (.dload 4, 2) := by decide +kernel
theorem dX2_wish_56 : decode cX2_wish 56 = .ok (.dreturn, 1) := by decide +kernel
theorem dX2_stick_0 : decode cX2_stick 0 = .ok (.iload_n 1, 1) := by decide +kernel
theorem dX2_stick_1 : decode cX2_stick 1 = .ok (.invokestatic 131, 3) := by decide +kernel
theorem dX2_stick_4 : decode cX2_stick 4 = .ok (.ifCond .ne 13, 3) := by decide +kernel
theorem dX2_stick_7 : decode cX2_stick 7 = .ok (.new 124, 3) := by decide +kernel
theorem dX2_stick_10 : decode cX2_stick 10 = .ok (.dup, 1) := by decide +kernel
theorem dX2_stick_11 : decode cX2_stick 11 = .ok (.ldc 134, 2) := by decide +kernel
theorem dX2_stick_13 : decode cX2_stick 13 = .ok (.invokespecial 128, 3) := by decide +kernel
theorem dX2_stick_16 : decode cX2_stick 16 = .ok (.athrow, 1) := by decide +kernel
theorem dX2_stick_17 : decode cX2_stick 17 = .ok (.aload_n 0, 1) := by decide +kernel
theorem dX2_stick_18 : decode cX2_stick 18 = .ok (.getfield 33, 3) := by decide +kernel
theorem dX2_stick_21 : decode cX2_stick 21 = .ok (.iload_n 1, 1) := by decide +kernel
theorem dX2_stick_22 : decode cX2_stick 22 = .ok (.baload, 1) := by decide +kernel
theorem dX2_stick_23 : decode cX2_stick 23 = .ok (.istore_n 3, 1) := by decide +kernel
theorem dX2_stick_24 : decode cX2_stick 24 = .ok (.aload_n 0, 1) := by decide +kernel
theorem dX2_stick_25 : decode cX2_stick 25 = .ok (.getfield 33, 3) := by decide +kernel
theorem dX2_stick_28 : decode cX2_stick 28 = .ok (.iload_n 1, 1) := by decide +kernel
theorem dX2_stick_29 : decode cX2_stick 29 = .ok (.iload_n 2, 1) := by decide +kernel
theorem dX2_stick_30 : decode cX2_stick 30 = .ok (.bastore, 1) := by decide +kernel
theorem dX2_stick_31 : decode cX2_stick 31 = .ok (.iload_n 3, 1) := by decide +kernel
theorem dX2_stick_32 : decode cX2_stick 32 = .ok (.ireturn, 1) := by decide +kernel
theorem dX2_fill_0 : decode cX2_fill 0 = .ok (.iload_n 1, 1) := by decide +kernel
theorem dX2_fill_1 : decode cX2_fill 1 = .ok (.invokestatic 95, 3) := by decide +kernel
theorem dX2_fill_4 : decode cX2_fill 4 = .ok (.ifCond .ne 13, 3) := by decide +kernel
theorem dX2_fill_7 : decode cX2_fill 7 = .ok (.new 124, 3) := by decide +kernel
theorem dX2_fill_10 : decode cX2_fill 10 = .ok (.dup, 1) := by decide +kernel
theorem dX2_fill_11 : decode cX2_fill 11 = .ok (.ldc 99, 2) := by decide +kernel
theorem dX2_fill_13 : decode cX2_fill 13 = .ok (.invokespecial 128, 3) := by decide +kernel
theorem dX2_fill_16 : decode cX2_fill 16 = .ok (.athrow, 1) := by decide +kernel
theorem dX2_fill_17 : decode cX2_fill 17 = .ok (.dload_n 2, 1) := by decide +kernel
theorem dX2_fill_18 : decode cX2_fill 18 = .ok (.sipush 800, 3) := by decide +kernel
theorem dX2_fill_21 : decode cX2_fill 21 = .ok (.invokestatic 89, 3) := by decide +kernel
theorem dX2_fill_24 : decode cX2_fill 24 = .ok (.ifCond .ne 13, 3) := by decide +kernel
theorem dX2_fill_27 : decode cX2_fill 27 = .ok (.new 80, 3) := by decide +kernel
theorem dX2_fill_30 : decode cX2_fill 30 = .ok (.dup, 1) := by decide +kernel
theorem dX2_fill_31 : decode cX2_fill 31 = .ok (.ldc 136, 2) := by decide +kernel
theorem dX2_fill_33 : decode cX2_fill 33 = .ok (.invokespecial 84, 3) := by decide +kernel
theorem dX2_fill_36 : decode cX2_fill 36 = .ok (.athrow, 1) := by decide +kernel
theorem dX2_fill_37 : decode cX2_fill 37 = .ok (.aload_n 0, 1) := by decide +kernel
theorem dX2_fill_38 : decode cX2_fill 38 = .ok (.getfield 41, 3) := by decide +kernel
theorem dX2_fill_41 : decode cX2_fill 41 = .ok (.iload_n 1, 1) := by decide +kernel
theorem dX2_fill_42 : decode cX2_fill 42 = .ok (.daload, 1) := by decide +kernel
theorem dX2_fill_43 : decode cX2_fill 43 = .ok (.dstore 4, 2) := by decide +kernel
theorem dX2_fill_45 : decode cX2_fill 45 = .ok (.aload_n 0, 1) := by decide +kernel
theorem dX2_fill_46 : decode cX2_fill 46 = .ok (.getfield 41, 3) := by decide +kernel
theorem dX2_fill_49 : decode cX2_fill 49 = .ok (.iload_n 1, 1) := by decide +kernel
theorem dX2_fill_50 : decode cX2_fill 50 = .ok (.dload_n 2, 1) := by decide +kernel
theorem dX2_fill_51 : decode cX2_fill 51 = .ok (.dastore, 1) := by decide +kernel
theorem dX2_fill_52 : decode cX2_fill 52 = .ok (.dload 4, 2) := by decide +kernel
theorem dX2_fill_54 : decode cX2_fill 54 = .ok (.dreturn, 1) := by decide +kernel
theorem dX2_tick_0 : decode cX2_tick 0 = .ok (.iload_n 1, 1) := by decide +kernel
theorem dX2_tick_1 : decode cX2_tick 1 = .ok (.iconst 1, 1) := by decide +kernel
theorem dX2_tick_2 : decode cX2_tick 2 = .ok (.if_icmp .lt 10, 3) := by decide +kernel
theorem dX2_tick_5 : decode cX2_tick 5 = .ok (.iload_n 1, 1) := by decide +kernel
theorem dX2_tick_6 : decode cX2_tick 6 = .ok (.sipush 400, 3) := by decide +kernel
theorem dX2_tick_9 : decode cX2_tick 9 = .ok (.if_icmp .le 13, 3) := by decide +kernel
theorem dX2_tick_12 : decode cX2_tick 12 = .ok (.new 80, 3) := by decide +kernel
theorem dX2_tick_15 : decode cX2_tick 15 = .ok (.dup, 1) := by decide +kernel
theorem dX2_tick_16 : decode cX2_tick 16 = .ok (.ldc 138, 2) := by decide +kernel
theorem dX2_tick_18 : decode cX2_tick 18 = .ok (.invokespecial 84, 3) := by decide +kernel
theorem dX2_tick_21 : decode cX2_tick 21 = .ok (.athrow, 1) := by decide +kernel
theorem dX2_tick_22 : decode cX2_tick 22 = .ok (.aload_n 0, 1) := by decide +kernel
theorem dX2_tick_23 : decode cX2_tick 23 = .ok (.getfield 22, 3) := by decide +kernel
theorem dX2_tick_26 : decode cX2_tick 26 = .ok (.getfield 140, 3) := by decide +kernel
theorem dX2_tick_29 : decode cX2_tick 29 = .ok (.istore_n 2, 1) := by decide +kernel
theorem dX2_tick_30 : decode cX2_tick 30 = .ok (.iconst 0, 1) := by decide +kernel
theorem dX2_tick_31 : decode cX2_tick 31 = .ok (.istore_n 3, 1) := by decide +kernel
theorem dX2_tick_32 : decode cX2_tick 32 = .ok (.iload_n 3, 1) := by decide +kernel
theorem dX2_tick_33 : decode cX2_tick 33 = .ok (.iload_n 1, 1) := by decide +kernel
theorem dX2_tick_34 : decode cX2_tick 34 = .ok (.if_icmp .ge 43, 3) := by decide +kernel
theorem dX2_tick_37 : decode cX2_tick 37 = .ok (.aload_n 0, 1) := by decide +kernel
theorem dX2_tick_38 : decode cX2_tick 38 = .ok (.dup, 1) := by decide +kernel
theorem dX2_tick_39 : decode cX2_tick 39 = .ok (.getfield 67, 3) := by decide +kernel
theorem dX2_tick_42 : decode cX2_tick 42 = .ok (.iconst 1, 1) := by decide +kernel
theorem dX2_tick_43 : decode cX2_tick 43 = .ok (.iadd, 1) := by decide +kernel
theorem dX2_tick_44 : decode cX2_tick 44 = .ok (.putfield 67, 3) := by decide +kernel
theorem dX2_tick_47 : decode cX2_tick 47 = .ok (.aload_n 0, 1) := by decide +kernel
theorem dX2_tick_48 : decode cX2_tick 48 = .ok (.invokevirtual 143, 3) := by decide +kernel
theorem dX2_tick_51 : decode cX2_tick 51 = .ok (.aload_n 0, 1) := by decide +kernel
theorem dX2_tick_52 : decode cX2_tick 52 = .ok (.invokevirtual 146, 3) := by decide +kernel
theorem dX2_tick_55 : decode cX2_tick 55 = .ok (.aload_n 0, 1) := by decide +kernel
theorem dX2_tick_56 : decode cX2_tick 56 = .ok (.invokevirtual 149, 3) := by decide +kernel
theorem dX2_tick_59 : decode cX2_tick 59 = .ok (.aload_n 0, 1) := by decide +kernel
theorem dX2_tick_60 : decode cX2_tick 60 = .ok (.invokevirtual 152, 3) := by decide +kernel
theorem dX2_tick_63 : decode cX2_tick 63 = .ok (.aload_n 0, 1) := by decide +kernel
theorem dX2_tick_64 : decode cX2_tick 64 = .ok (.invokevirtual 155, 3) := by decide +kernel
theorem dX2_tick_67 : decode cX2_tick 67 = .ok (.aload_n 0, 1) := by decide +kernel
theorem dX2_tick_68 : decode cX2_tick 68 = .ok (.invokevirtual 158, 3) := by decide +kernel
theorem dX2_tick_71 : decode cX2_tick 71 = .ok (.iinc 3 1, 3) := by decide +kernel
theorem dX2_tick_74 : decode cX2_tick 74 = .ok (.goto (-42), 3) := by decide +kernel
theorem dX2_tick_77 : decode cX2_tick 77 = .ok (.aload_n 0, 1) := by decide +kernel
theorem dX2_tick_78 : decode cX2_tick 78 = .ok (.getfield 22, 3) := by decide +kernel
theorem dX2_tick_81 : decode cX2_tick 81 = .ok (.getfield 140, 3) := by decide +kernel
theorem dX2_tick_84 : decode cX2_tick 84 = .ok (.iload_n 2, 1) := by decide +kernel
theorem dX2_tick_85 : decode cX2_tick 85 = .ok (.isub, 1) := by decide +kernel
theorem dX2_tick_86 : decode cX2_tick 86 = .ok (.ireturn, 1) := by decide +kernel
theorem dX2_place_0 : decode cX2_place 0 = .ok (.aload_n 0, 1) := by decide +kernel
theorem dX2_place_1 : decode cX2_place 1 = .ok (.iload_n 1, 1) := by decide +kernel
theorem dX2_place_2 : decode cX2_place 2 = .ok (.invokevirtual 161, 3) := by decide +kernel
theorem dX2_place_5 : decode cX2_place 5 = .ok (.getfield 165, 3) := by decide +kernel
theorem dX2_place_8 : decode cX2_place 8 = .ok (.dreturn, 1) := by decide +kernel
theorem dX2_speed_0 : decode cX2_speed 0 = .ok (.aload_n 0, 1) := by decide +kernel
theorem dX2_speed_1 : decode cX2_speed 1 = .ok (.iload_n 1, 1) := by decide +kernel
theorem dX2_speed_2 : decode cX2_speed 2 = .ok (.invokevirtual 161, 3) := by decide +kernel
theorem dX2_speed_5 : decode cX2_speed 5 = .ok (.getfield 168, 3) := by decide +kernel
theorem dX2_speed_8 : decode cX2_speed 8 = .ok (.dreturn, 1) := by decide +kernel
theorem dX2_told_0 : decode cX2_told 0 = .ok (.aload_n 0, 1) := by decide +kernel
theorem dX2_told_1 : decode cX2_told 1 = .ok (.iload_n 1, 1) := by decide +kernel
theorem dX2_told_2 : decode cX2_told 2 = .ok (.invokevirtual 161, 3) := by decide +kernel
theorem dX2_told_5 : decode cX2_told 5 = .ok (.astore_n 3, 1) := by decide +kernel
theorem dX2_told_6 : decode cX2_told 6 = .ok (.iload_n 2, 1) := by decide +kernel
theorem dX2_told_7 : decode cX2_told 7 = .ok (.tableswitch 55 0 3 #[29, 34, 42, 50], 29) := by decide +kernel
theorem dX2_told_36 : decode cX2_told 36 = .ok (.aload_n 3, 1) := by decide +kernel
theorem dX2_told_37 : decode cX2_told 37 = .ok (.getfield 171, 3) := by decide +kernel
theorem dX2_told_40 : decode cX2_told 40 = .ok (.ireturn, 1) := by decide +kernel
theorem dX2_told_41 : decode cX2_told 41 = .ok (.aload_n 3, 1) := by decide +kernel
theorem dX2_told_42 : decode cX2_told 42 = .ok (.getfield 174, 3) := by decide +kernel
theorem dX2_told_45 : decode cX2_told 45 = .ok (.invokestatic 177, 3) := by decide +kernel
theorem dX2_told_48 : decode cX2_told 48 = .ok (.ireturn, 1) := by decide +kernel
theorem dX2_told_49 : decode cX2_told 49 = .ok (.aload_n 3, 1) := by decide +kernel
theorem dX2_told_50 : decode cX2_told 50 = .ok (.getfield 174, 3) := by decide +kernel
theorem dX2_told_53 : decode cX2_told 53 = .ok (.invokestatic 181, 3) := by decide +kernel
theorem dX2_told_56 : decode cX2_told 56 = .ok (.ireturn, 1) := by decide +kernel
theorem dX2_told_57 : decode cX2_told 57 = .ok (.aload_n 3, 1) := by decide +kernel
theorem dX2_told_58 : decode cX2_told 58 = .ok (.getfield 184, 3) := by decide +kernel
theorem dX2_told_61 : decode cX2_told 61 = .ok (.ireturn, 1) := by decide +kernel
theorem dX2_told_62 : decode cX2_told 62 = .ok (.new 80, 3) := by decide +kernel
theorem dX2_told_65 : decode cX2_told 65 = .ok (.dup, 1) := by decide +kernel
theorem dX2_told_66 : decode cX2_told 66 = .ok (.ldc 187, 2) := by decide +kernel
theorem dX2_told_68 : decode cX2_told 68 = .ok (.invokespecial 84, 3) := by decide +kernel
theorem dX2_told_71 : decode cX2_told 71 = .ok (.athrow, 1) := by decide +kernel
theorem dX2_point_0 : decode cX2_point 0 = .ok (.iload_n 1, 1) := by decide +kernel
theorem dX2_point_1 : decode cX2_point 1 = .ok (.invokestatic 131, 3) := by decide +kernel
theorem dX2_point_4 : decode cX2_point 4 = .ok (.ifCond .ne 13, 3) := by decide +kernel
theorem dX2_point_7 : decode cX2_point 7 = .ok (.new 124, 3) := by decide +kernel
theorem dX2_point_10 : decode cX2_point 10 = .ok (.dup, 1) := by decide +kernel
theorem dX2_point_11 : decode cX2_point 11 = .ok (.ldc 134, 2) := by decide +kernel
theorem dX2_point_13 : decode cX2_point 13 = .ok (.invokespecial 128, 3) := by decide +kernel
theorem dX2_point_16 : decode cX2_point 16 = .ok (.athrow, 1) := by decide +kernel
theorem dX2_point_17 : decode cX2_point 17 = .ok (.iload_n 2, 1) := by decide +kernel
theorem dX2_point_18 : decode cX2_point 18 = .ok (.tableswitch 54 0 2 #[26, 33, 40], 26) := by decide +kernel
theorem dX2_point_44 : decode cX2_point 44 = .ok (.aload_n 0, 1) := by decide +kernel
theorem dX2_point_45 : decode cX2_point 45 = .ok (.getfield 26, 3) := by decide +kernel
theorem dX2_point_48 : decode cX2_point 48 = .ok (.iload_n 1, 1) := by decide +kernel
theorem dX2_point_49 : decode cX2_point 49 = .ok (.iaload, 1) := by decide +kernel
theorem dX2_point_50 : decode cX2_point 50 = .ok (.ireturn, 1) := by decide +kernel
theorem dX2_point_51 : decode cX2_point 51 = .ok (.aload_n 0, 1) := by decide +kernel
theorem dX2_point_52 : decode cX2_point 52 = .ok (.getfield 30, 3) := by decide +kernel
theorem dX2_point_55 : decode cX2_point 55 = .ok (.iload_n 1, 1) := by decide +kernel
theorem dX2_point_56 : decode cX2_point 56 = .ok (.iaload, 1) := by decide +kernel
theorem dX2_point_57 : decode cX2_point 57 = .ok (.ireturn, 1) := by decide +kernel
theorem dX2_point_58 : decode cX2_point 58 = .ok (.aload_n 0, 1) := by decide +kernel
theorem dX2_point_59 : decode cX2_point 59 = .ok (.iload_n 1, 1) := by decide +kernel
theorem dX2_point_60 : decode cX2_point 60 = .ok (.invokevirtual 189, 3) := by decide +kernel
theorem dX2_point_63 : decode cX2_point 63 = .ok (.ifCond .eq 7, 3) := by decide +kernel
theorem dX2_point_66 : decode cX2_point 66 = .ok (.iconst 1, 1) := by decide +kernel
theorem dX2_point_67 : decode cX2_point 67 = .ok (.goto 4, 3) := by decide +kernel
theorem dX2_point_70 : decode cX2_point 70 = .ok (.iconst 0, 1) := by decide +kernel
theorem dX2_point_71 : decode cX2_point 71 = .ok (.ireturn, 1) := by decide +kernel
theorem dX2_point_72 : decode cX2_point 72 = .ok (.new 80, 3) := by decide +kernel
theorem dX2_point_75 : decode cX2_point 75 = .ok (.dup, 1) := by decide +kernel
theorem dX2_point_76 : decode cX2_point 76 = .ok (.ldc 192, 2) := by decide +kernel
theorem dX2_point_78 : decode cX2_point 78 = .ok (.invokespecial 84, 3) := by decide +kernel
theorem dX2_point_81 : decode cX2_point 81 = .ok (.athrow, 1) := by decide +kernel
theorem dX2_siding_0 : decode cX2_siding 0 = .ok (.iload_n 1, 1) := by decide +kernel
theorem dX2_siding_1 : decode cX2_siding 1 = .ok (.invokestatic 95, 3) := by decide +kernel
theorem dX2_siding_4 : decode cX2_siding 4 = .ok (.ifCond .ne 13, 3) := by decide +kernel
theorem dX2_siding_7 : decode cX2_siding 7 = .ok (.new 124, 3) := by decide +kernel
theorem dX2_siding_10 : decode cX2_siding 10 = .ok (.dup, 1) := by decide +kernel
theorem dX2_siding_11 : decode cX2_siding 11 = .ok (.ldc 99, 2) := by decide +kernel
theorem dX2_siding_13 : decode cX2_siding 13 = .ok (.invokespecial 128, 3) := by decide +kernel
theorem dX2_siding_16 : decode cX2_siding 16 = .ok (.athrow, 1) := by decide +kernel
theorem dX2_siding_17 : decode cX2_siding 17 = .ok (.iload_n 2, 1) := by decide +kernel
theorem dX2_siding_18 : decode cX2_siding 18 = .ok (.ifCond .lt 23, 3) := by decide +kernel
theorem dX2_siding_21 : decode cX2_siding 21 = .ok (.iload_n 2, 1) := by decide +kernel
theorem dX2_siding_22 : decode cX2_siding 22 = .ok (.aload_n 0, 1) := by decide +kernel
theorem dX2_siding_23 : decode cX2_siding 23 = .ok (.getfield 44, 3) := by decide +kernel
theorem dX2_siding_26 : decode cX2_siding 26 = .ok (.iload_n 1, 1) := by decide +kernel
theorem dX2_siding_27 : decode cX2_siding 27 = .ok (.iaload, 1) := by decide +kernel
theorem dX2_siding_28 : decode cX2_siding 28 = .ok (.if_icmp .ge 13, 3) := by decide +kernel
theorem dX2_siding_31 : decode cX2_siding 31 = .ok (.iload_n 2, 1) := by decide +kernel
theorem dX2_siding_32 : decode cX2_siding 32 = .ok (.bipush 60, 2) := by decide +kernel
theorem dX2_siding_34 : decode cX2_siding 34 = .ok (.if_icmp .ge 7, 3) := by decide +kernel
theorem dX2_siding_37 : decode cX2_siding 37 = .ok (.iconst 1, 1) := by decide +kernel
theorem dX2_siding_38 : decode cX2_siding 38 = .ok (.goto 4, 3) := by decide +kernel
theorem dX2_siding_41 : decode cX2_siding 41 = .ok (.iconst 0, 1) := by decide +kernel
theorem dX2_siding_42 : decode cX2_siding 42 = .ok (.istore_n 3, 1) := by decide +kernel
theorem dX2_siding_43 : decode cX2_siding 43 = .ok (.iload_n 3, 1) := by decide +kernel
theorem dX2_siding_44 : decode cX2_siding 44 = .ok (.ifCond .eq 17, 3) := by decide +kernel
theorem dX2_siding_47 : decode cX2_siding 47 = .ok (.aload_n 0, 1) := by decide +kernel
theorem dX2_siding_48 : decode cX2_siding 48 = .ok (.getfield 47, 3) := by decide +kernel
theorem dX2_siding_51 : decode cX2_siding 51 = .ok (.iload_n 1, 1) := by decide +kernel
theorem dX2_siding_52 : decode cX2_siding 52 = .ok (.bipush 60, 2) := by decide +kernel
theorem dX2_siding_54 : decode cX2_siding 54 = .ok (.imul, 1) := by decide +kernel
theorem dX2_siding_55 : decode cX2_siding 55 = .ok (.iload_n 2, 1) := by decide +kernel
theorem dX2_siding_56 : decode cX2_siding 56 = .ok (.iadd, 1) := by decide +kernel
theorem dX2_siding_57 : decode cX2_siding 57 = .ok (.iaload, 1) := by decide +kernel
theorem dX2_siding_58 : decode cX2_siding 58 = .ok (.goto 4, 3) := by decide +kernel
theorem dX2_siding_61 : decode cX2_siding 61 = .ok (.iconst (-1), 1) := by decide +kernel
theorem dX2_siding_62 : decode cX2_siding 62 = .ok (.ireturn, 1) := by decide +kernel
theorem dX2_event_0 : decode cX2_event 0 = .ok (.aload_n 0, 1) := by decide +kernel
theorem dX2_event_1 : decode cX2_event 1 = .ok (.getfield 22, 3) := by decide +kernel
theorem dX2_event_4 : decode cX2_event 4 = .ok (.iload_n 1, 1) := by decide +kernel
theorem dX2_event_5 : decode cX2_event 5 = .ok (.invokevirtual 194, 3) := by decide +kernel
theorem dX2_event_8 : decode cX2_event 8 = .ok (.ifCond .ne 13, 3) := by decide +kernel
theorem dX2_event_11 : decode cX2_event 11 = .ok (.new 124, 3) := by decide +kernel
theorem dX2_event_14 : decode cX2_event 14 = .ok (.dup, 1) := by decide +kernel
theorem dX2_event_15 : decode cX2_event 15 = .ok (.ldc 197, 2) := by decide +kernel
theorem dX2_event_17 : decode cX2_event 17 = .ok (.invokespecial 128, 3) := by decide +kernel
theorem dX2_event_20 : decode cX2_event 20 = .ok (.athrow, 1) := by decide +kernel
theorem dX2_event_21 : decode cX2_event 21 = .ok (.iload_n 2, 1) := by decide +kernel
theorem dX2_event_22 : decode cX2_event 22 = .ok (.ifCond .lt 8, 3) := by decide +kernel
theorem dX2_event_25 : decode cX2_event 25 = .ok (.iload_n 2, 1) := by decide +kernel
theorem dX2_event_26 : decode cX2_event 26 = .ok (.iconst 4, 1) := by decide +kernel
theorem dX2_event_27 : decode cX2_event 27 = .ok (.if_icmp .lt 13, 3) := by decide +kernel
theorem dX2_event_30 : decode cX2_event 30 = .ok (.new 80, 3) := by decide +kernel
theorem dX2_event_33 : decode cX2_event 33 = .ok (.dup, 1) := by decide +kernel
theorem dX2_event_34 : decode cX2_event 34 = .ok (.ldc 199, 2) := by decide +kernel
theorem dX2_event_36 : decode cX2_event 36 = .ok (.invokespecial 84, 3) := by decide +kernel
theorem dX2_event_39 : decode cX2_event 39 = .ok (.athrow, 1) := by decide +kernel
theorem dX2_event_40 : decode cX2_event 40 = .ok (.aload_n 0, 1) := by decide +kernel
theorem dX2_event_41 : decode cX2_event 41 = .ok (.getfield 22, 3) := by decide +kernel
theorem dX2_event_44 : decode cX2_event 44 = .ok (.iload_n 1, 1) := by decide +kernel
theorem dX2_event_45 : decode cX2_event 45 = .ok (.iload_n 2, 1) := by decide +kernel
theorem dX2_event_46 : decode cX2_event 46 = .ok (.invokevirtual 201, 3) := by decide +kernel
theorem dX2_event_49 : decode cX2_event 49 = .ok (.ireturn, 1) := by decide +kernel
theorem dX2_about_0 : decode cX2_about 0 = .ok (.iload_n 1, 1) := by decide +kernel
theorem dX2_about_1 : decode cX2_about 1 = .ok (.tableswitch 95 0 6 #[43, 51, 64, 72, 77, 82, 90], 43) := by decide +kernel
theorem dX2_about_44 : decode cX2_about 44 = .ok (.aload_n 0, 1) := by decide +kernel
theorem dX2_about_45 : decode cX2_about 45 = .ok (.getfield 10, 3) := by decide +kernel
theorem dX2_about_48 : decode cX2_about 48 = .ok (.invokevirtual 101, 3) := by decide +kernel
theorem dX2_about_51 : decode cX2_about 51 = .ok (.ireturn, 1) := by decide +kernel
theorem dX2_about_52 : decode cX2_about 52 = .ok (.aload_n 0, 1) := by decide +kernel
theorem dX2_about_53 : decode cX2_about 53 = .ok (.getfield 10, 3) := by decide +kernel
theorem dX2_about_56 : decode cX2_about 56 = .ok (.invokevirtual 101, 3) := by decide +kernel
theorem dX2_about_59 : decode cX2_about 59 = .ok (.aload_n 0, 1) := by decide +kernel
theorem dX2_about_60 : decode cX2_about 60 = .ok (.getfield 57, 3) := by decide +kernel
theorem dX2_about_63 : decode cX2_about 63 = .ok (.isub, 1) := by decide +kernel
theorem dX2_about_64 : decode cX2_about 64 = .ok (.ireturn, 1) := by decide +kernel
theorem dX2_about_65 : decode cX2_about 65 = .ok (.aload_n 0, 1) := by decide +kernel
theorem dX2_about_66 : decode cX2_about 66 = .ok (.getfield 16, 3) := by decide +kernel
theorem dX2_about_69 : decode cX2_about 69 = .ok (.invokevirtual 101, 3) := by decide +kernel
theorem dX2_about_72 : decode cX2_about 72 = .ok (.ireturn, 1) := by decide +kernel
theorem dX2_about_73 : decode cX2_about 73 = .ok (.aload_n 0, 1) := by decide +kernel
theorem dX2_about_74 : decode cX2_about 74 = .ok (.getfield 61, 3) := by decide +kernel
theorem dX2_about_77 : decode cX2_about 77 = .ok (.ireturn, 1) := by decide +kernel
theorem dX2_about_78 : decode cX2_about 78 = .ok (.aload_n 0, 1) := by decide +kernel
theorem dX2_about_79 : decode cX2_about 79 = .ok (.getfield 64, 3) := by decide +kernel
theorem dX2_about_82 : decode cX2_about 82 = .ok (.ireturn, 1) := by decide +kernel
theorem dX2_about_83 : decode cX2_about 83 = .ok (.aload_n 0, 1) := by decide +kernel
theorem dX2_about_84 : decode cX2_about 84 = .ok (.getfield 22, 3) := by decide +kernel
theorem dX2_about_87 : decode cX2_about 87 = .ok (.getfield 140, 3) := by decide +kernel
theorem dX2_about_90 : decode cX2_about 90 = .ok (.ireturn, 1) := by decide +kernel
theorem dX2_about_91 : decode cX2_about 91 = .ok (.aload_n 0, 1) := by decide +kernel
theorem dX2_about_92 : decode cX2_about 92 = .ok (.getfield 67, 3) := by decide +kernel
theorem dX2_about_95 : decode cX2_about 95 = .ok (.ireturn, 1) := by decide +kernel
theorem dX2_about_96 : decode cX2_about 96 = .ok (.new 80, 3) := by decide +kernel
theorem dX2_about_99 : decode cX2_about 99 = .ok (.dup, 1) := by decide +kernel
theorem dX2_about_100 : decode cX2_about 100 = .ok (.ldc 204, 2) := by decide +kernel
theorem dX2_about_102 : decode cX2_about 102 = .ok (.invokespecial 84, 3) := by decide +kernel
theorem dX2_about_105 : decode cX2_about 105 = .ok (.athrow, 1) := by decide +kernel
theorem dX2_fastest_0 : decode cX2_fastest 0 = .ok (.aload_n 0, 1) := by decide +kernel
theorem dX2_fastest_1 : decode cX2_fastest 1 = .ok (.getfield 54, 3) := by decide +kernel
theorem dX2_fastest_4 : decode cX2_fastest 4 = .ok (.dreturn, 1) := by decide +kernel
theorem dX2_cutOf_0 : decode cX2_cutOf 0 = .ok (.iload_n 1, 1) := by decide +kernel
theorem dX2_cutOf_1 : decode cX2_cutOf 1 = .ok (.ifCond .lt 14, 3) := by decide +kernel
theorem dX2_cutOf_4 : decode cX2_cutOf 4 = .ok (.iload_n 1, 1) := by decide +kernel
theorem dX2_cutOf_5 : decode cX2_cutOf 5 = .ok (.aload_n 0, 1) := by decide +kernel
theorem dX2_cutOf_6 : decode cX2_cutOf 6 = .ok (.getfield 10, 3) := by decide +kernel
theorem dX2_cutOf_9 : decode cX2_cutOf 9 = .ok (.invokevirtual 101, 3) := by decide +kernel
theorem dX2_cutOf_12 : decode cX2_cutOf 12 = .ok (.if_icmp .lt 13, 3) := by decide +kernel
theorem dX2_cutOf_15 : decode cX2_cutOf 15 = .ok (.new 124, 3) := by decide +kernel
theorem dX2_cutOf_18 : decode cX2_cutOf 18 = .ok (.dup, 1) := by decide +kernel
theorem dX2_cutOf_19 : decode cX2_cutOf 19 = .ok (.ldc 206, 2) := by decide +kernel
theorem dX2_cutOf_21 : decode cX2_cutOf 21 = .ok (.invokespecial 128, 3) := by decide +kernel
theorem dX2_cutOf_24 : decode cX2_cutOf 24 = .ok (.athrow, 1) := by decide +kernel
theorem dX2_cutOf_25 : decode cX2_cutOf 25 = .ok (.aload_n 0, 1) := by decide +kernel
theorem dX2_cutOf_26 : decode cX2_cutOf 26 = .ok (.getfield 10, 3) := by decide +kernel
theorem dX2_cutOf_29 : decode cX2_cutOf 29 = .ok (.iload_n 1, 1) := by decide +kernel
theorem dX2_cutOf_30 : decode cX2_cutOf 30 = .ok (.invokevirtual 208, 3) := by decide +kernel
theorem dX2_cutOf_33 : decode cX2_cutOf 33 = .ok (.checkcast 110, 3) := by decide +kernel
theorem dX2_cutOf_36 : decode cX2_cutOf 36 = .ok (.areturn, 1) := by decide +kernel
theorem dX2_isWithin_0 : decode cX2_isWithin 0 = .ok (.dload_n 0, 1) := by decide +kernel
theorem dX2_isWithin_1 : decode cX2_isWithin 1 = .ok (.dconst 0, 1) := by decide +kernel
theorem dX2_isWithin_2 : decode cX2_isWithin 2 = .ok (.dcmp .l, 1) := by decide +kernel
theorem dX2_isWithin_3 : decode cX2_isWithin 3 = .ok (.ifCond .lt 14, 3) := by decide +kernel
theorem dX2_isWithin_6 : decode cX2_isWithin 6 = .ok (.dload_n 0, 1) := by decide +kernel
theorem dX2_isWithin_7 : decode cX2_isWithin 7 = .ok (.iload_n 2, 1) := by decide +kernel
theorem dX2_isWithin_8 : decode cX2_isWithin 8 = .ok (.i2d, 1) := by decide +kernel
theorem dX2_isWithin_9 : decode cX2_isWithin 9 = .ok (.dcmp .g, 1) := by decide +kernel
theorem dX2_isWithin_10 : decode cX2_isWithin 10 = .ok (.ifCond .gt 7, 3) := by decide +kernel
theorem dX2_isWithin_13 : decode cX2_isWithin 13 = .ok (.iconst 1, 1) := by decide +kernel
theorem dX2_isWithin_14 : decode cX2_isWithin 14 = .ok (.goto 4, 3) := by decide +kernel
theorem dX2_isWithin_17 : decode cX2_isWithin 17 = .ok (.iconst 0, 1) := by decide +kernel
theorem dX2_isWithin_18 : decode cX2_isWithin 18 = .ok (.ireturn, 1) := by decide +kernel
theorem dX2_isTrack_0 : decode cX2_isTrack 0 = .ok (.iload_n 0, 1) := by decide +kernel
theorem dX2_isTrack_1 : decode cX2_isTrack 1 = .ok (.ifCond .lt 13, 3) := by decide +kernel
theorem dX2_isTrack_4 : decode cX2_isTrack 4 = .ok (.iload_n 0, 1) := by decide +kernel
theorem dX2_isTrack_5 : decode cX2_isTrack 5 = .ok (.bipush 8, 2) := by decide +kernel
theorem dX2_isTrack_7 : decode cX2_isTrack 7 = .ok (.if_icmp .ge 7, 3) := by decide +kernel
theorem dX2_isTrack_10 : decode cX2_isTrack 10 = .ok (.iconst 1, 1) := by decide +kernel
theorem dX2_isTrack_11 : decode cX2_isTrack 11 = .ok (.goto 4, 3) := by decide +kernel
theorem dX2_isTrack_14 : decode cX2_isTrack 14 = .ok (.iconst 0, 1) := by decide +kernel
theorem dX2_isTrack_15 : decode cX2_isTrack 15 = .ok (.ireturn, 1) := by decide +kernel
theorem dX2_isPoint_0 : decode cX2_isPoint 0 = .ok (.iload_n 0, 1) := by decide +kernel
theorem dX2_isPoint_1 : decode cX2_isPoint 1 = .ok (.ifCond .lt 13, 3) := by decide +kernel
theorem dX2_isPoint_4 : decode cX2_isPoint 4 = .ok (.iload_n 0, 1) := by decide +kernel
theorem dX2_isPoint_5 : decode cX2_isPoint 5 = .ok (.bipush 7, 2) := by decide +kernel
theorem dX2_isPoint_7 : decode cX2_isPoint 7 = .ok (.if_icmp .ge 7, 3) := by decide +kernel
theorem dX2_isPoint_10 : decode cX2_isPoint 10 = .ok (.iconst 1, 1) := by decide +kernel
theorem dX2_isPoint_11 : decode cX2_isPoint 11 = .ok (.goto 4, 3) := by decide +kernel
theorem dX2_isPoint_14 : decode cX2_isPoint 14 = .ok (.iconst 0, 1) := by decide +kernel
theorem dX2_isPoint_15 : decode cX2_isPoint 15 = .ok (.ireturn, 1) := by decide +kernel
theorem dX2_nodeBehind_0 : decode cX2_nodeBehind 0 = .ok (.iconst 2, 1) := by decide +kernel
theorem dX2_nodeBehind_1 : decode cX2_nodeBehind 1 = .ok (.iload_n 0, 1) := by decide +kernel
theorem dX2_nodeBehind_2 : decode cX2_nodeBehind 2 = .ok (.imul, 1) := by decide +kernel
theorem dX2_nodeBehind_3 : decode cX2_nodeBehind 3 = .ok (.iconst 1, 1) := by decide +kernel
theorem dX2_nodeBehind_4 : decode cX2_nodeBehind 4 = .ok (.iadd, 1) := by decide +kernel
theorem dX2_nodeBehind_5 : decode cX2_nodeBehind 5 = .ok (.iload_n 1, 1) := by decide +kernel
theorem dX2_nodeBehind_6 : decode cX2_nodeBehind 6 = .ok (.iadd, 1) := by decide +kernel
theorem dX2_nodeBehind_7 : decode cX2_nodeBehind 7 = .ok (.ireturn, 1) := by decide +kernel
theorem dX2_trackOf_0 : decode cX2_trackOf 0 = .ok (.iload_n 0, 1) := by decide +kernel
theorem dX2_trackOf_1 : decode cX2_trackOf 1 = .ok (.bipush 7, 2) := by decide +kernel
theorem dX2_trackOf_3 : decode cX2_trackOf 3 = .ok (.isub, 1) := by decide +kernel
theorem dX2_trackOf_4 : decode cX2_trackOf 4 = .ok (.istore_n 1, 1) := by decide +kernel
theorem dX2_trackOf_5 : decode cX2_trackOf 5 = .ok (.iload_n 1, 1) := by decide +kernel
theorem dX2_trackOf_6 : decode cX2_trackOf 6 = .ok (.invokestatic 95, 3) := by decide +kernel
theorem dX2_trackOf_9 : decode cX2_trackOf 9 = .ok (.ifCond .eq 7, 3) := by decide +kernel
theorem dX2_trackOf_12 : decode cX2_trackOf 12 = .ok (.iload_n 1, 1) := by decide +kernel
theorem dX2_trackOf_13 : decode cX2_trackOf 13 = .ok (.goto 4, 3) := by decide +kernel
theorem dX2_trackOf_16 : decode cX2_trackOf 16 = .ok (.iconst (-1), 1) := by decide +kernel
theorem dX2_trackOf_17 : decode cX2_trackOf 17 = .ok (.ireturn, 1) := by decide +kernel
theorem dX2_levelOf_0 : decode cX2_levelOf 0 = .ok (.iload_n 0, 1) := by decide +kernel
theorem dX2_levelOf_1 : decode cX2_levelOf 1 = .ok (.iconst 1, 1) := by decide +kernel
theorem dX2_levelOf_2 : decode cX2_levelOf 2 = .ok (.if_icmp .ge 5, 3) := by decide +kernel
theorem dX2_levelOf_5 : decode cX2_levelOf 5 = .ok (.iconst 0, 1) := by decide +kernel
theorem dX2_levelOf_6 : decode cX2_levelOf 6 = .ok (.ireturn, 1) := by decide +kernel
theorem dX2_levelOf_7 : decode cX2_levelOf 7 = .ok (.iload_n 0, 1) := by decide +kernel
theorem dX2_levelOf_8 : decode cX2_levelOf 8 = .ok (.iconst 3, 1) := by decide +kernel
theorem dX2_levelOf_9 : decode cX2_levelOf 9 = .ok (.if_icmp .ge 5, 3) := by decide +kernel
theorem dX2_levelOf_12 : decode cX2_levelOf 12 = .ok (.iconst 1, 1) := by decide +kernel
theorem dX2_levelOf_13 : decode cX2_levelOf 13 = .ok (.ireturn, 1) := by decide +kernel
theorem dX2_levelOf_14 : decode cX2_levelOf 14 = .ok (.iload_n 0, 1) := by decide +kernel
theorem dX2_levelOf_15 : decode cX2_levelOf 15 = .ok (.bipush 7, 2) := by decide +kernel
theorem dX2_levelOf_17 : decode cX2_levelOf 17 = .ok (.if_icmp .ge 7, 3) := by decide +kernel
theorem dX2_levelOf_20 : decode cX2_levelOf 20 = .ok (.iconst 2, 1) := by decide +kernel
theorem dX2_levelOf_21 : decode cX2_levelOf 21 = .ok (.goto 4, 3) := by decide +kernel
theorem dX2_levelOf_24 : decode cX2_levelOf 24 = .ok (.iconst 3, 1) := by decide +kernel
theorem dX2_levelOf_25 : decode cX2_levelOf 25 = .ok (.ireturn, 1) := by decide +kernel
theorem dX2_pointPlace_0 : decode cX2_pointPlace 0 = .ok (.bipush 80, 2) := by decide +kernel
theorem dX2_pointPlace_2 : decode cX2_pointPlace 2 = .ok (.bipush 40, 2) := by decide +kernel
theorem dX2_pointPlace_4 : decode cX2_pointPlace 4 = .ok (.iload_n 0, 1) := by decide +kernel
theorem dX2_pointPlace_5 : decode cX2_pointPlace 5 = .ok (.invokestatic 181, 3) := by decide +kernel
theorem dX2_pointPlace_8 : decode cX2_pointPlace 8 = .ok (.imul, 1) := by decide +kernel
theorem dX2_pointPlace_9 : decode cX2_pointPlace 9 = .ok (.iadd, 1) := by decide +kernel
theorem dX2_pointPlace_10 : decode cX2_pointPlace 10 = .ok (.ireturn, 1) := by decide +kernel
theorem dX2_leadsTo_0 : decode cX2_leadsTo 0 = .ok (.iload_n 1, 1) := by decide +kernel
theorem dX2_leadsTo_1 : decode cX2_leadsTo 1 = .ok (.istore_n 2, 1) := by decide +kernel
theorem dX2_leadsTo_2 : decode cX2_leadsTo 2 = .ok (.iconst 0, 1) := by decide +kernel
theorem dX2_leadsTo_3 : decode cX2_leadsTo 3 = .ok (.istore_n 3, 1) := by decide +kernel
theorem dX2_leadsTo_4 : decode cX2_leadsTo 4 = .ok (.iload_n 3, 1) := by decide +kernel
theorem dX2_leadsTo_5 : decode cX2_leadsTo 5 = .ok (.iconst 3, 1) := by decide +kernel
theorem dX2_leadsTo_6 : decode cX2_leadsTo 6 = .ok (.if_icmp .ge 20, 3) := by decide +kernel
theorem dX2_leadsTo_9 : decode cX2_leadsTo 9 = .ok (.iload_n 2, 1) := by decide +kernel
theorem dX2_leadsTo_10 : decode cX2_leadsTo 10 = .ok (.iload_n 0, 1) := by decide +kernel
theorem dX2_leadsTo_11 : decode cX2_leadsTo 11 = .ok (.if_icmp .le 15, 3) := by decide +kernel
theorem dX2_leadsTo_14 : decode cX2_leadsTo 14 = .ok (.iload_n 2, 1) := by decide +kernel
theorem dX2_leadsTo_15 : decode cX2_leadsTo 15 = .ok (.iconst 1, 1) := by decide +kernel
theorem dX2_leadsTo_16 : decode cX2_leadsTo 16 = .ok (.isub, 1) := by decide +kernel
theorem dX2_leadsTo_17 : decode cX2_leadsTo 17 = .ok (.iconst 2, 1) := by decide +kernel
theorem dX2_leadsTo_18 : decode cX2_leadsTo 18 = .ok (.idiv, 1) := by decide +kernel
theorem dX2_leadsTo_19 : decode cX2_leadsTo 19 = .ok (.istore_n 2, 1) := by decide +kernel
theorem dX2_leadsTo_20 : decode cX2_leadsTo 20 = .ok (.iinc 3 1, 3) := by decide +kernel
theorem dX2_leadsTo_23 : decode cX2_leadsTo 23 = .ok (.goto (-19), 3) := by decide +kernel
theorem dX2_leadsTo_26 : decode cX2_leadsTo 26 = .ok (.iload_n 2, 1) := by decide +kernel
theorem dX2_leadsTo_27 : decode cX2_leadsTo 27 = .ok (.iload_n 0, 1) := by decide +kernel
theorem dX2_leadsTo_28 : decode cX2_leadsTo 28 = .ok (.if_icmp .ne 7, 3) := by decide +kernel
theorem dX2_leadsTo_31 : decode cX2_leadsTo 31 = .ok (.iconst 1, 1) := by decide +kernel
theorem dX2_leadsTo_32 : decode cX2_leadsTo 32 = .ok (.goto 4, 3) := by decide +kernel
theorem dX2_leadsTo_35 : decode cX2_leadsTo 35 = .ok (.iconst 0, 1) := by decide +kernel
theorem dX2_leadsTo_36 : decode cX2_leadsTo 36 = .ok (.ireturn, 1) := by decide +kernel
theorem dX2_isOneWay_0 : decode cX2_isOneWay 0 = .ok (.iload_n 0, 1) := by decide +kernel
theorem dX2_isOneWay_1 : decode cX2_isOneWay 1 = .ok (.iload_n 1, 1) := by decide +kernel
theorem dX2_isOneWay_2 : decode cX2_isOneWay 2 = .ok (.invokestatic 212, 3) := by decide +kernel
theorem dX2_isOneWay_5 : decode cX2_isOneWay 5 = .ok (.ifCond .ne 11, 3) := by decide +kernel
theorem dX2_isOneWay_8 : decode cX2_isOneWay 8 = .ok (.iload_n 1, 1) := by decide +kernel
theorem dX2_isOneWay_9 : decode cX2_isOneWay 9 = .ok (.iload_n 0, 1) := by decide +kernel
theorem dX2_isOneWay_10 : decode cX2_isOneWay 10 = .ok (.invokestatic 212, 3) := by decide +kernel
theorem dX2_isOneWay_13 : decode cX2_isOneWay 13 = .ok (.ifCond .eq 7, 3) := by decide +kernel
theorem dX2_isOneWay_16 : decode cX2_isOneWay 16 = .ok (.iconst 1, 1) := by decide +kernel
theorem dX2_isOneWay_17 : decode cX2_isOneWay 17 = .ok (.goto 4, 3) := by decide +kernel
theorem dX2_isOneWay_20 : decode cX2_isOneWay 20 = .ok (.iconst 0, 1) := by decide +kernel
theorem dX2_isOneWay_21 : decode cX2_isOneWay 21 = .ok (.ireturn, 1) := by decide +kernel
theorem dX2_goOnTurning_0 : decode cX2_goOnTurning 0 = .ok (.iconst 0, 1) := by decide +kernel
theorem dX2_goOnTurning_1 : decode cX2_goOnTurning 1 = .ok (.istore_n 1, 1) := by decide +kernel
theorem dX2_goOnTurning_2 : decode cX2_goOnTurning 2 = .ok (.iload_n 1, 1) := by decide +kernel
theorem dX2_goOnTurning_3 : decode cX2_goOnTurning 3 = .ok (.bipush 7, 2) := by decide +kernel
theorem dX2_goOnTurning_5 : decode cX2_goOnTurning 5 = .ok (.if_icmp .ge 60, 3) := by decide +kernel
theorem dX2_goOnTurning_8 : decode cX2_goOnTurning 8 = .ok (.aload_n 0, 1) := by decide +kernel
theorem dX2_goOnTurning_9 : decode cX2_goOnTurning 9 = .ok (.getfield 30, 3) := by decide +kernel
theorem dX2_goOnTurning_12 : decode cX2_goOnTurning 12 = .ok (.iload_n 1, 1) := by decide +kernel
theorem dX2_goOnTurning_13 : decode cX2_goOnTurning 13 = .ok (.iaload, 1) := by decide +kernel
theorem dX2_goOnTurning_14 : decode cX2_goOnTurning 14 = .ok (.ifCond .le 45, 3) := by decide +kernel
theorem dX2_goOnTurning_17 : decode cX2_goOnTurning 17 = .ok (.aload_n 0, 1) := by decide +kernel
theorem dX2_goOnTurning_18 : decode cX2_goOnTurning 18 = .ok (.getfield 33, 3) := by decide +kernel
theorem dX2_goOnTurning_21 : decode cX2_goOnTurning 21 = .ok (.iload_n 1, 1) := by decide +kernel
theorem dX2_goOnTurning_22 : decode cX2_goOnTurning 22 = .ok (.baload, 1) := by decide +kernel
theorem dX2_goOnTurning_23 : decode cX2_goOnTurning 23 = .ok (.ifCond .ne 36, 3) := by decide +kernel
theorem dX2_goOnTurning_26 : decode cX2_goOnTurning 26 = .ok (.aload_n 0, 1) := by decide +kernel
theorem dX2_goOnTurning_27 : decode cX2_goOnTurning 27 = .ok (.getfield 30, 3) := by decide +kernel
theorem dX2_goOnTurning_30 : decode cX2_goOnTurning 30 = .ok (.iload_n 1, 1) := by decide +kernel
theorem dX2_goOnTurning_31 : decode cX2_goOnTurning 31 = .ok (.dup2, 1) := by decide +kernel
theorem dX2_goOnTurning_32 : decode cX2_goOnTurning 32 = .ok (.iaload, 1) := by decide +kernel
theorem dX2_goOnTurning_33 : decode cX2_goOnTurning 33 = .ok (.iconst 1, 1) := by decide +kernel
theorem dX2_goOnTurning_34 : decode cX2_goOnTurning 34 = .ok (.isub, 1) := by decide +kernel
theorem dX2_goOnTurning_35 : decode cX2_goOnTurning 35 = .ok (.iastore, 1) := by decide +kernel
theorem dX2_goOnTurning_36 : decode cX2_goOnTurning 36 = .ok (.aload_n 0, 1) := by decide +kernel
theorem dX2_goOnTurning_37 : decode cX2_goOnTurning 37 = .ok (.getfield 30, 3) := by decide +kernel
theorem dX2_goOnTurning_40 : decode cX2_goOnTurning 40 = .ok (.iload_n 1, 1) := by decide +kernel
theorem dX2_goOnTurning_41 : decode cX2_goOnTurning 41 = .ok (.iaload, 1) := by decide +kernel
theorem dX2_goOnTurning_42 : decode cX2_goOnTurning 42 = .ok (.ifCond .ne 17, 3) := by decide +kernel
theorem dX2_goOnTurning_45 : decode cX2_goOnTurning 45 = .ok (.aload_n 0, 1) := by decide +kernel
theorem dX2_goOnTurning_46 : decode cX2_goOnTurning 46 = .ok (.getfield 26, 3) := by decide +kernel
theorem dX2_goOnTurning_49 : decode cX2_goOnTurning 49 = .ok (.iload_n 1, 1) := by decide +kernel
theorem dX2_goOnTurning_50 : decode cX2_goOnTurning 50 = .ok (.iconst 1, 1) := by decide +kernel
theorem dX2_goOnTurning_51 : decode cX2_goOnTurning 51 = .ok (.aload_n 0, 1) := by decide +kernel
theorem dX2_goOnTurning_52 : decode cX2_goOnTurning 52 = .ok (.getfield 26, 3) := by decide +kernel
theorem dX2_goOnTurning_55 : decode cX2_goOnTurning 55 = .ok (.iload_n 1, 1) := by decide +kernel
theorem dX2_goOnTurning_56 : decode cX2_goOnTurning 56 = .ok (.iaload, 1) := by decide +kernel
theorem dX2_goOnTurning_57 : decode cX2_goOnTurning 57 = .ok (.isub, 1) := by decide +kernel
theorem dX2_goOnTurning_58 : decode cX2_goOnTurning 58 = .ok (.iastore, 1) := by decide +kernel
theorem dX2_goOnTurning_59 : decode cX2_goOnTurning 59 = .ok (.iinc 1 1, 3) := by decide +kernel
theorem dX2_goOnTurning_62 : decode cX2_goOnTurning 62 = .ok (.goto (-60), 3) := by decide +kernel
theorem dX2_goOnTurning_65 : decode cX2_goOnTurning 65 = .ok (.return_, 1) := by decide +kernel
theorem dX2_beginTurning_0 : decode cX2_beginTurning 0 = .ok (.iconst 0, 1) := by decide +kernel
theorem dX2_beginTurning_1 : decode cX2_beginTurning 1 = .ok (.istore_n 1, 1) := by decide +kernel
theorem dX2_beginTurning_2 : decode cX2_beginTurning 2 = .ok (.iload_n 1, 1) := by decide +kernel
theorem dX2_beginTurning_3 : decode cX2_beginTurning 3 = .ok (.bipush 7, 2) := by decide +kernel
theorem dX2_beginTurning_5 : decode cX2_beginTurning 5 = .ok (.if_icmp .ge 66, 3) := by decide +kernel
theorem dX2_beginTurning_8 : decode cX2_beginTurning 8 = .ok (.aload_n 0, 1) := by decide +kernel
theorem dX2_beginTurning_9 : decode cX2_beginTurning 9 = .ok (.getfield 30, 3) := by decide +kernel
theorem dX2_beginTurning_12 : decode cX2_beginTurning 12 = .ok (.iload_n 1, 1) := by decide +kernel
theorem dX2_beginTurning_13 : decode cX2_beginTurning 13 = .ok (.iaload, 1) := by decide +kernel
theorem dX2_beginTurning_14 : decode cX2_beginTurning 14 = .ok (.ifCond .ne 51, 3) := by decide +kernel
theorem dX2_beginTurning_17 : decode cX2_beginTurning 17 = .ok (.aload_n 0, 1) := by decide +kernel
theorem dX2_beginTurning_18 : decode cX2_beginTurning 18 = .ok (.getfield 33, 3) := by decide +kernel
theorem dX2_beginTurning_21 : decode cX2_beginTurning 21 = .ok (.iload_n 1, 1) := by decide +kernel
theorem dX2_beginTurning_22 : decode cX2_beginTurning 22 = .ok (.baload, 1) := by decide +kernel
theorem dX2_beginTurning_23 : decode cX2_beginTurning 23 = .ok (.ifCond .ne 42, 3) := by decide +kernel
theorem dX2_beginTurning_26 : decode cX2_beginTurning 26 = .ok (.aload_n 0, 1) := by decide +kernel
theorem dX2_beginTurning_27 : decode cX2_beginTurning 27 = .ok (.iload_n 1, 1) := by decide +kernel
theorem dX2_beginTurning_28 : decode cX2_beginTurning 28 = .ok (.invokevirtual 189, 3) := by decide +kernel
theorem dX2_beginTurning_31 : decode cX2_beginTurning 31 = .ok (.ifCond .ne 34, 3) := by decide +kernel
theorem dX2_beginTurning_34 : decode cX2_beginTurning 34 = .ok (.aload_n 0, 1) := by decide +kernel
theorem dX2_beginTurning_35 : decode cX2_beginTurning 35 = .ok (.iload_n 1, 1) := by decide +kernel
theorem dX2_beginTurning_36 : decode cX2_beginTurning 36 = .ok (.invokevirtual 216, 3) := by decide +kernel
theorem dX2_beginTurning_39 : decode cX2_beginTurning 39 = .ok (.astore_n 2, 1) := by decide +kernel
theorem dX2_beginTurning_40 : decode cX2_beginTurning 40 = .ok (.aload_n 2, 1) := by decide +kernel
theorem dX2_beginTurning_41 : decode cX2_beginTurning 41 = .ok (.ifnull 24, 3) := by decide +kernel
theorem dX2_beginTurning_44 : decode cX2_beginTurning 44 = .ok (.aload_n 2, 1) := by decide +kernel
theorem dX2_beginTurning_45 : decode cX2_beginTurning 45 = .ok (.iload_n 1, 1) := by decide +kernel
theorem dX2_beginTurning_46 : decode cX2_beginTurning 46 = .ok (.invokevirtual 219, 3) := by decide +kernel
theorem dX2_beginTurning_49 : decode cX2_beginTurning 49 = .ok (.aload_n 0, 1) := by decide +kernel
theorem dX2_beginTurning_50 : decode cX2_beginTurning 50 = .ok (.getfield 26, 3) := by decide +kernel
theorem dX2_beginTurning_53 : decode cX2_beginTurning 53 = .ok (.iload_n 1, 1) := by decide +kernel
theorem dX2_beginTurning_54 : decode cX2_beginTurning 54 = .ok (.iaload, 1) := by decide +kernel
theorem dX2_beginTurning_55 : decode cX2_beginTurning 55 = .ok (.if_icmp .eq 10, 3) := by decide +kernel
theorem dX2_beginTurning_58 : decode cX2_beginTurning 58 = .ok (.aload_n 0, 1) := by decide +kernel
theorem dX2_beginTurning_59 : decode cX2_beginTurning 59 = .ok (.getfield 30, 3) := by decide +kernel
theorem dX2_beginTurning_62 : decode cX2_beginTurning 62 = .ok (.iload_n 1, 1) := by decide +kernel
theorem dX2_beginTurning_63 : decode cX2_beginTurning 63 = .ok (.iconst 4, 1) := by decide +kernel
theorem dX2_beginTurning_64 : decode cX2_beginTurning 64 = .ok (.iastore, 1) := by decide +kernel
theorem dX2_beginTurning_65 : decode cX2_beginTurning 65 = .ok (.iinc 1 1, 3) := by decide +kernel
theorem dX2_beginTurning_68 : decode cX2_beginTurning 68 = .ok (.goto (-66), 3) := by decide +kernel
theorem dX2_beginTurning_71 : decode cX2_beginTurning 71 = .ok (.return_, 1) := by decide +kernel
theorem dX2_isBusy_0 : decode cX2_isBusy 0 = .ok (.iload_n 1, 1) := by decide +kernel
theorem dX2_isBusy_1 : decode cX2_isBusy 1 = .ok (.invokestatic 222, 3) := by decide +kernel
theorem dX2_isBusy_4 : decode cX2_isBusy 4 = .ok (.istore_n 2, 1) := by decide +kernel
theorem dX2_isBusy_5 : decode cX2_isBusy 5 = .ok (.iconst 0, 1) := by decide +kernel
theorem dX2_isBusy_6 : decode cX2_isBusy 6 = .ok (.istore_n 3, 1) := by decide +kernel
theorem dX2_isBusy_7 : decode cX2_isBusy 7 = .ok (.iload_n 3, 1) := by decide +kernel
theorem dX2_isBusy_8 : decode cX2_isBusy 8 = .ok (.aload_n 0, 1) := by decide +kernel
theorem dX2_isBusy_9 : decode cX2_isBusy 9 = .ok (.getfield 16, 3) := by decide +kernel
theorem dX2_isBusy_12 : decode cX2_isBusy 12 = .ok (.invokevirtual 101, 3) := by decide +kernel
theorem dX2_isBusy_15 : decode cX2_isBusy 15 = .ok (.if_icmp .ge 65, 3) := by decide +kernel
theorem dX2_isBusy_18 : decode cX2_isBusy 18 = .ok (.aload_n 0, 1) := by decide +kernel
theorem dX2_isBusy_19 : decode cX2_isBusy 19 = .ok (.getfield 16, 3) := by decide +kernel
theorem dX2_isBusy_22 : decode cX2_isBusy 22 = .ok (.iload_n 3, 1) := by decide +kernel
theorem dX2_isBusy_23 : decode cX2_isBusy 23 = .ok (.invokevirtual 208, 3) := by decide +kernel
theorem dX2_isBusy_26 : decode cX2_isBusy 26 = .ok (.checkcast 110, 3) := by decide +kernel
theorem dX2_isBusy_29 : decode cX2_isBusy 29 = .ok (.astore 4, 2) := by decide +kernel
theorem dX2_isBusy_31 : decode cX2_isBusy 31 = .ok (.aload 4, 2) := by decide +kernel
theorem dX2_isBusy_33 : decode cX2_isBusy 33 = .ok (.getfield 165, 3) := by decide +kernel
theorem dX2_isBusy_36 : decode cX2_isBusy 36 = .ok (.iload_n 2, 1) := by decide +kernel
theorem dX2_isBusy_37 : decode cX2_isBusy 37 = .ok (.bipush 15, 2) := by decide +kernel
theorem dX2_isBusy_39 : decode cX2_isBusy 39 = .ok (.isub, 1) := by decide +kernel
theorem dX2_isBusy_40 : decode cX2_isBusy 40 = .ok (.i2d, 1) := by decide +kernel
theorem dX2_isBusy_41 : decode cX2_isBusy 41 = .ok (.dcmp .l, 1) := by decide +kernel
theorem dX2_isBusy_42 : decode cX2_isBusy 42 = .ok (.ifCond .lt 32, 3) := by decide +kernel
theorem dX2_isBusy_45 : decode cX2_isBusy 45 = .ok (.aload 4, 2) := by decide +kernel
theorem dX2_isBusy_47 : decode cX2_isBusy 47 = .ok (.invokevirtual 225, 3) := by decide +kernel
theorem dX2_isBusy_50 : decode cX2_isBusy 50 = .ok (.iload_n 2, 1) := by decide +kernel
theorem dX2_isBusy_51 : decode cX2_isBusy 51 = .ok (.i2d, 1) := by decide +kernel
theorem dX2_isBusy_52 : decode cX2_isBusy 52 = .ok (.ldc2_w 229, 3) := by decide +kernel
theorem dX2_isBusy_55 : decode cX2_isBusy 55 = .ok (.dadd, 1) := by decide +kernel
theorem dX2_isBusy_56 : decode cX2_isBusy 56 = .ok (.dcmp .g, 1) := by decide +kernel
theorem dX2_isBusy_57 : decode cX2_isBusy 57 = .ok (.ifCond .gt 17, 3) := by decide +kernel
theorem dX2_isBusy_60 : decode cX2_isBusy 60 = .ok (.aload 4, 2) := by decide +kernel
theorem dX2_isBusy_62 : decode cX2_isBusy 62 = .ok (.getfield 174, 3) := by decide +kernel
theorem dX2_isBusy_65 : decode cX2_isBusy 65 = .ok (.iload_n 1, 1) := by decide +kernel
theorem dX2_isBusy_66 : decode cX2_isBusy 66 = .ok (.invokestatic 231, 3) := by decide +kernel
theorem dX2_isBusy_69 : decode cX2_isBusy 69 = .ok (.ifCond .eq 5, 3) := by decide +kernel
theorem dX2_isBusy_72 : decode cX2_isBusy 72 = .ok (.iconst 1, 1) := by decide +kernel
theorem dX2_isBusy_73 : decode cX2_isBusy 73 = .ok (.ireturn, 1) := by decide +kernel
theorem dX2_isBusy_74 : decode cX2_isBusy 74 = .ok (.iinc 3 1, 3) := by decide +kernel
theorem dX2_isBusy_77 : decode cX2_isBusy 77 = .ok (.goto (-70), 3) := by decide +kernel
theorem dX2_isBusy_80 : decode cX2_isBusy 80 = .ok (.iconst 0, 1) := by decide +kernel
theorem dX2_isBusy_81 : decode cX2_isBusy 81 = .ok (.ireturn, 1) := by decide +kernel
theorem dX2_firstBoundFor_0 : decode cX2_firstBoundFor 0 = .ok (.aconst_null, 1) := by decide +kernel
theorem dX2_firstBoundFor_1 : decode cX2_firstBoundFor 1 = .ok (.astore_n 2, 1) := by decide +kernel
theorem dX2_firstBoundFor_2 : decode cX2_firstBoundFor 2 = .ok (.iconst 0, 1) := by decide +kernel
theorem dX2_firstBoundFor_3 : decode cX2_firstBoundFor 3 = .ok (.istore_n 3, 1) := by decide +kernel
theorem dX2_firstBoundFor_4 : decode cX2_firstBoundFor 4 = .ok (.iload_n 3, 1) := by decide +kernel
theorem dX2_firstBoundFor_5 : decode cX2_firstBoundFor 5 = .ok (.aload_n 0, 1) := by decide +kernel
theorem dX2_firstBoundFor_6 : decode cX2_firstBoundFor 6 = .ok (.getfield 16, 3) := by decide +kernel
theorem dX2_firstBoundFor_9 : decode cX2_firstBoundFor 9 = .ok (.invokevirtual 101, 3) := by decide +kernel
theorem dX2_firstBoundFor_12 : decode cX2_firstBoundFor 12 = .ok (.if_icmp .ge 51, 3) := by decide +kernel
theorem dX2_firstBoundFor_15 : decode cX2_firstBoundFor 15 = .ok (.aload_n 0, 1) := by decide +kernel
theorem dX2_firstBoundFor_16 : decode cX2_firstBoundFor 16 = .ok (.getfield 16, 3) := by decide +kernel
theorem dX2_firstBoundFor_19 : decode cX2_firstBoundFor 19 = .ok (.iload_n 3, 1) := by decide +kernel
theorem dX2_firstBoundFor_20 : decode cX2_firstBoundFor 20 = .ok (.invokevirtual 208, 3) := by decide +kernel
theorem dX2_firstBoundFor_23 : decode cX2_firstBoundFor 23 = .ok (.checkcast 110, 3) := by decide +kernel
theorem dX2_firstBoundFor_26 : decode cX2_firstBoundFor 26 = .ok (.astore 4, 2) := by decide +kernel
theorem dX2_firstBoundFor_28 : decode cX2_firstBoundFor 28 = .ok (.aload 4, 2) := by decide +kernel
theorem dX2_firstBoundFor_30 : decode cX2_firstBoundFor 30 = .ok (.iload_n 1, 1) := by decide +kernel
theorem dX2_firstBoundFor_31 : decode cX2_firstBoundFor 31 = .ok (.invokevirtual 234, 3) := by decide +kernel
theorem dX2_firstBoundFor_34 : decode cX2_firstBoundFor 34 = .ok (.ifCond .eq 23, 3) := by decide +kernel
theorem dX2_firstBoundFor_37 : decode cX2_firstBoundFor 37 = .ok (.aload_n 2, 1) := by decide +kernel
theorem dX2_firstBoundFor_38 : decode cX2_firstBoundFor 38 = .ok (.ifnull 16, 3) := by decide +kernel
theorem dX2_firstBoundFor_41 : decode cX2_firstBoundFor 41 = .ok (.aload 4, 2) := by decide +kernel
theorem dX2_firstBoundFor_43 : decode cX2_firstBoundFor 43 = .ok (.getfield 165, 3) := by decide +kernel
theorem dX2_firstBoundFor_46 : decode cX2_firstBoundFor 46 = .ok (.aload_n 2, 1) := by decide +kernel
theorem dX2_firstBoundFor_47 : decode cX2_firstBoundFor 47 = .ok (.getfield 165, 3) := by decide +kernel
theorem dX2_firstBoundFor_50 : decode cX2_firstBoundFor 50 = .ok (.dcmp .l, 1) := by decide +kernel
theorem dX2_firstBoundFor_51 : decode cX2_firstBoundFor 51 = .ok (.ifCond .le 6, 3) := by decide +kernel
theorem dX2_firstBoundFor_54 : decode cX2_firstBoundFor 54 = .ok (.aload 4, 2) := by decide +kernel
theorem dX2_firstBoundFor_56 : decode cX2_firstBoundFor 56 = .ok (.astore_n 2, 1) := by decide +kernel
theorem dX2_firstBoundFor_57 : decode cX2_firstBoundFor 57 = .ok (.iinc 3 1, 3) := by decide +kernel
theorem dX2_firstBoundFor_60 : decode cX2_firstBoundFor 60 = .ok (.goto (-56), 3) := by decide +kernel
theorem dX2_firstBoundFor_63 : decode cX2_firstBoundFor 63 = .ok (.aload_n 2, 1) := by decide +kernel
theorem dX2_firstBoundFor_64 : decode cX2_firstBoundFor 64 = .ok (.areturn, 1) := by decide +kernel
theorem dX2_rollAll_0 : decode cX2_rollAll 0 = .ok (.iconst 0, 1) := by decide +kernel
theorem dX2_rollAll_1 : decode cX2_rollAll 1 = .ok (.istore_n 1, 1) := by decide +kernel
theorem dX2_rollAll_2 : decode cX2_rollAll 2 = .ok (.iload_n 1, 1) := by decide +kernel
theorem dX2_rollAll_3 : decode cX2_rollAll 3 = .ok (.aload_n 0, 1) := by decide +kernel
theorem dX2_rollAll_4 : decode cX2_rollAll 4 = .ok (.getfield 16, 3) := by decide +kernel
theorem dX2_rollAll_7 : decode cX2_rollAll 7 = .ok (.invokevirtual 101, 3) := by decide +kernel
theorem dX2_rollAll_10 : decode cX2_rollAll 10 = .ok (.if_icmp .ge 79, 3) := by decide +kernel
theorem dX2_rollAll_13 : decode cX2_rollAll 13 = .ok (.aload_n 0, 1) := by decide +kernel
theorem dX2_rollAll_14 : decode cX2_rollAll 14 = .ok (.getfield 16, 3) := by decide +kernel
theorem dX2_rollAll_17 : decode cX2_rollAll 17 = .ok (.iload_n 1, 1) := by decide +kernel
theorem dX2_rollAll_18 : decode cX2_rollAll 18 = .ok (.invokevirtual 208, 3) := by decide +kernel
theorem dX2_rollAll_21 : decode cX2_rollAll 21 = .ok (.checkcast 110, 3) := by decide +kernel
theorem dX2_rollAll_24 : decode cX2_rollAll 24 = .ok (.astore_n 2, 1) := by decide +kernel
theorem dX2_rollAll_25 : decode cX2_rollAll 25 = .ok (.aload_n 2, 1) := by decide +kernel
theorem dX2_rollAll_26 : decode cX2_rollAll 26 = .ok (.getfield 165, 3) := by decide +kernel
theorem dX2_rollAll_29 : decode cX2_rollAll 29 = .ok (.dstore_n 3, 1) := by decide +kernel
theorem dX2_rollAll_30 : decode cX2_rollAll 30 = .ok (.aload_n 2, 1) := by decide +kernel
theorem dX2_rollAll_31 : decode cX2_rollAll 31 = .ok (.getfield 168, 3) := by decide +kernel
theorem dX2_rollAll_34 : decode cX2_rollAll 34 = .ok (.aload_n 0, 1) := by decide +kernel
theorem dX2_rollAll_35 : decode cX2_rollAll 35 = .ok (.aload_n 2, 1) := by decide +kernel
theorem dX2_rollAll_36 : decode cX2_rollAll 36 = .ok (.invokevirtual 237, 3) := by decide +kernel
theorem dX2_rollAll_39 : decode cX2_rollAll 39 = .ok (.ldc2_w 241, 3) := by decide +kernel
theorem dX2_rollAll_42 : decode cX2_rollAll 42 = .ok (.dmul, 1) := by decide +kernel
theorem dX2_rollAll_43 : decode cX2_rollAll 43 = .ok (.dadd, 1) := by decide +kernel
theorem dX2_rollAll_44 : decode cX2_rollAll 44 = .ok (.dstore 5, 2) := by decide +kernel
theorem dX2_rollAll_46 : decode cX2_rollAll 46 = .ok (.aload_n 2, 1) := by decide +kernel
theorem dX2_rollAll_47 : decode cX2_rollAll 47 = .ok (.dload 5, 2) := by decide +kernel
theorem dX2_rollAll_49 : decode cX2_rollAll 49 = .ok (.dconst 0, 1) := by decide +kernel
theorem dX2_rollAll_50 : decode cX2_rollAll 50 = .ok (.dcmp .g, 1) := by decide +kernel
theorem dX2_rollAll_51 : decode cX2_rollAll 51 = .ok (.ifCond .ge 7, 3) := by decide +kernel
theorem dX2_rollAll_54 : decode cX2_rollAll 54 = .ok (.dconst 0, 1) := by decide +kernel
theorem dX2_rollAll_55 : decode cX2_rollAll 55 = .ok (.goto 5, 3) := by decide +kernel
theorem dX2_rollAll_58 : decode cX2_rollAll 58 = .ok (.dload 5, 2) := by decide +kernel
theorem dX2_rollAll_60 : decode cX2_rollAll 60 = .ok (.putfield 168, 3) := by decide +kernel
theorem dX2_rollAll_63 : decode cX2_rollAll 63 = .ok (.aload_n 2, 1) := by decide +kernel
theorem dX2_rollAll_64 : decode cX2_rollAll 64 = .ok (.dload_n 3, 1) := by decide +kernel
theorem dX2_rollAll_65 : decode cX2_rollAll 65 = .ok (.aload_n 2, 1) := by decide +kernel
theorem dX2_rollAll_66 : decode cX2_rollAll 66 = .ok (.getfield 168, 3) := by decide +kernel
theorem dX2_rollAll_69 : decode cX2_rollAll 69 = .ok (.ldc2_w 241, 3) := by decide +kernel
theorem dX2_rollAll_72 : decode cX2_rollAll 72 = .ok (.dmul, 1) := by decide +kernel
theorem dX2_rollAll_73 : decode cX2_rollAll 73 = .ok (.dadd, 1) := by decide +kernel
theorem dX2_rollAll_74 : decode cX2_rollAll 74 = .ok (.putfield 165, 3) := by decide +kernel
theorem dX2_rollAll_77 : decode cX2_rollAll 77 = .ok (.aload_n 0, 1) := by decide +kernel
theorem dX2_rollAll_78 : decode cX2_rollAll 78 = .ok (.aload_n 2, 1) := by decide +kernel
theorem dX2_rollAll_79 : decode cX2_rollAll 79 = .ok (.dload_n 3, 1) := by decide +kernel
theorem dX2_rollAll_80 : decode cX2_rollAll 80 = .ok (.invokevirtual 243, 3) := by decide +kernel
theorem dX2_rollAll_83 : decode cX2_rollAll 83 = .ok (.iinc 1 1, 3) := by decide +kernel
theorem dX2_rollAll_86 : decode cX2_rollAll 86 = .ok (.goto (-84), 3) := by decide +kernel
theorem dX2_rollAll_89 : decode cX2_rollAll 89 = .ok (.return_, 1) := by decide +kernel
theorem dX2_acceleration_0 : decode cX2_acceleration 0 = .ok (.ldc2_w 247, 3) := by decide +kernel
theorem dX2_acceleration_3 : decode cX2_acceleration 3 = .ok (.aload_n 1, 1) := by decide +kernel
theorem dX2_acceleration_4 : decode cX2_acceleration 4 = .ok (.getfield 165, 3) := by decide +kernel
theorem dX2_acceleration_7 : decode cX2_acceleration 7 = .ok (.invokestatic 249, 3) := by decide +kernel
theorem dX2_acceleration_10 : decode cX2_acceleration 10 = .ok (.aload_n 1, 1) := by decide +kernel
theorem dX2_acceleration_11 : decode cX2_acceleration 11 = .ok (.getfield 253, 3) := by decide +kernel
theorem dX2_acceleration_14 : decode cX2_acceleration 14 = .ok (.ldc2_w 256, 3) := by decide +kernel
theorem dX2_acceleration_17 : decode cX2_acceleration 17 = .ok (.ddiv, 1) := by decide +kernel
theorem dX2_acceleration_18 : decode cX2_acceleration 18 = .ok (.dsub, 1) := by decide +kernel
theorem dX2_acceleration_19 : decode cX2_acceleration 19 = .ok (.dmul, 1) := by decide +kernel
theorem dX2_acceleration_20 : decode cX2_acceleration 20 = .ok (.dstore_n 2, 1) := by decide +kernel
theorem dX2_acceleration_21 : decode cX2_acceleration 21 = .ok (.dload_n 2, 1) := by decide +kernel
theorem dX2_acceleration_22 : decode cX2_acceleration 22 = .ok (.ldc2_w 258, 3) := by decide +kernel
theorem dX2_acceleration_25 : decode cX2_acceleration 25 = .ok (.aload_n 0, 1) := by decide +kernel
theorem dX2_acceleration_26 : decode cX2_acceleration 26 = .ok (.aload_n 1, 1) := by decide +kernel
theorem dX2_acceleration_27 : decode cX2_acceleration 27 = .ok (.iconst 0, 1) := by decide +kernel
theorem dX2_acceleration_28 : decode cX2_acceleration 28 = .ok (.bipush 30, 2) := by decide +kernel
theorem dX2_acceleration_30 : decode cX2_acceleration 30 = .ok (.invokevirtual 260, 3) := by decide +kernel
theorem dX2_acceleration_33 : decode cX2_acceleration 33 = .ok (.i2d, 1) := by decide +kernel
theorem dX2_acceleration_34 : decode cX2_acceleration 34 = .ok (.dmul, 1) := by decide +kernel
theorem dX2_acceleration_35 : decode cX2_acceleration 35 = .ok (.dsub, 1) := by decide +kernel
theorem dX2_acceleration_36 : decode cX2_acceleration 36 = .ok (.dstore_n 2, 1) := by decide +kernel
theorem dX2_acceleration_37 : decode cX2_acceleration 37 = .ok (.aload_n 1, 1) := by decide +kernel
theorem dX2_acceleration_38 : decode cX2_acceleration 38 = .ok (.getfield 174, 3) := by decide +kernel
theorem dX2_acceleration_41 : decode cX2_acceleration 41 = .ok (.invokestatic 177, 3) := by decide +kernel
theorem dX2_acceleration_44 : decode cX2_acceleration 44 = .ok (.istore 4, 2) := by decide +kernel
theorem dX2_acceleration_46 : decode cX2_acceleration 46 = .ok (.iload 4, 2) := by decide +kernel
theorem dX2_acceleration_48 : decode cX2_acceleration 48 = .ok (.iconst (-1), 1) := by decide +kernel
theorem dX2_acceleration_49 : decode cX2_acceleration 49 = .ok (.if_icmp .eq 23, 3) := by decide +kernel
theorem dX2_acceleration_52 : decode cX2_acceleration 52 = .ok (.dload_n 2, 1) := by decide +kernel
theorem dX2_acceleration_53 : decode cX2_acceleration 53 = .ok (.ldc2_w 258, 3) := by decide +kernel
theorem dX2_acceleration_56 : decode cX2_acceleration 56 = .ok (.aload_n 0, 1) := by decide +kernel
theorem dX2_acceleration_57 : decode cX2_acceleration 57 = .ok (.aload_n 1, 1) := by decide +kernel
theorem dX2_acceleration_58 : decode cX2_acceleration 58 = .ok (.iconst 1, 1) := by decide +kernel
theorem dX2_acceleration_59 : decode cX2_acceleration 59 = .ok (.iload 4, 2) := by decide +kernel
theorem dX2_acceleration_61 : decode cX2_acceleration 61 = .ok (.iadd, 1) := by decide +kernel
theorem dX2_acceleration_62 : decode cX2_acceleration 62 = .ok (.sipush 210, 3) := by decide +kernel
theorem dX2_acceleration_65 : decode cX2_acceleration 65 = .ok (.invokevirtual 260, 3) := by decide +kernel
theorem dX2_acceleration_68 : decode cX2_acceleration 68 = .ok (.i2d, 1) := by decide +kernel
theorem dX2_acceleration_69 : decode cX2_acceleration 69 = .ok (.dmul, 1) := by decide +kernel
theorem dX2_acceleration_70 : decode cX2_acceleration 70 = .ok (.dsub, 1) := by decide +kernel
theorem dX2_acceleration_71 : decode cX2_acceleration 71 = .ok (.dstore_n 2, 1) := by decide +kernel
theorem dX2_acceleration_72 : decode cX2_acceleration 72 = .ok (.dload_n 2, 1) := by decide +kernel
theorem dX2_acceleration_73 : decode cX2_acceleration 73 = .ok (.dreturn, 1) := by decide +kernel
theorem dX2_grade_0 : decode cX2_grade 0 = .ok (.dload_n 0, 1) := by decide +kernel
theorem dX2_grade_1 : decode cX2_grade 1 = .ok (.ldc2_w 264, 3) := by decide +kernel
theorem dX2_grade_4 : decode cX2_grade 4 = .ok (.dcmp .g, 1) := by decide +kernel
theorem dX2_grade_5 : decode cX2_grade 5 = .ok (.ifCond .ge 7, 3) := by decide +kernel
theorem dX2_grade_8 : decode cX2_grade 8 = .ok (.ldc2_w 266, 3) := by decide +kernel
theorem dX2_grade_11 : decode cX2_grade 11 = .ok (.dreturn, 1) := by decide +kernel
theorem dX2_grade_12 : decode cX2_grade 12 = .ok (.dload_n 0, 1) := by decide +kernel
theorem dX2_grade_13 : decode cX2_grade 13 = .ok (.ldc2_w 268, 3) := by decide +kernel
theorem dX2_grade_16 : decode cX2_grade 16 = .ok (.dcmp .g, 1) := by decide +kernel
theorem dX2_grade_17 : decode cX2_grade 17 = .ok (.ifCond .ge 9, 3) := by decide +kernel
theorem dX2_grade_20 : decode cX2_grade 20 = .ok (.ldc2_w 270, 3) := by decide +kernel
theorem dX2_grade_23 : decode cX2_grade 23 = .ok (.goto 6, 3) := by decide +kernel
theorem dX2_grade_26 : decode cX2_grade 26 = .ok (.ldc2_w 272, 3) := by decide +kernel
theorem dX2_grade_29 : decode cX2_grade 29 = .ok (.dreturn, 1) := by decide +kernel
theorem dX2_brakeSteps_0 : decode cX2_brakeSteps 0 = .ok (.iload_n 2, 1) := by decide +kernel
theorem dX2_brakeSteps_1 : decode cX2_brakeSteps 1 = .ok (.ifCond .lt 9, 3) := by decide +kernel
theorem dX2_brakeSteps_4 : decode cX2_brakeSteps 4 = .ok (.iload_n 2, 1) := by decide +kernel
theorem dX2_brakeSteps_5 : decode cX2_brakeSteps 5 = .ok (.bipush 9, 2) := by decide +kernel
theorem dX2_brakeSteps_7 : decode cX2_brakeSteps 7 = .ok (.if_icmp .lt 5, 3) := by decide +kernel
theorem dX2_brakeSteps_10 : decode cX2_brakeSteps 10 = .ok (.iconst 0, 1) := by decide +kernel
theorem dX2_brakeSteps_11 : decode cX2_brakeSteps 11 = .ok (.ireturn, 1) := by decide +kernel
theorem dX2_brakeSteps_12 : decode cX2_brakeSteps 12 = .ok (.aload_n 0, 1) := by decide +kernel
theorem dX2_brakeSteps_13 : decode cX2_brakeSteps 13 = .ok (.getfield 37, 3) := by decide +kernel
theorem dX2_brakeSteps_16 : decode cX2_brakeSteps 16 = .ok (.iload_n 2, 1) := by decide +kernel
theorem dX2_brakeSteps_17 : decode cX2_brakeSteps 17 = .ok (.daload, 1) := by decide +kernel
theorem dX2_brakeSteps_18 : decode cX2_brakeSteps 18 = .ok (.dstore 4, 2) := by decide +kernel
theorem dX2_brakeSteps_20 : decode cX2_brakeSteps 20 = .ok (.aload_n 1, 1) := by decide +kernel
theorem dX2_brakeSteps_21 : decode cX2_brakeSteps 21 = .ok (.getfield 165, 3) := by decide +kernel
theorem dX2_brakeSteps_24 : decode cX2_brakeSteps 24 = .ok (.iload_n 3, 1) := by decide +kernel
theorem dX2_brakeSteps_25 : decode cX2_brakeSteps 25 = .ok (.i2d, 1) := by decide +kernel
theorem dX2_brakeSteps_26 : decode cX2_brakeSteps 26 = .ok (.dcmp .l, 1) := by decide +kernel
theorem dX2_brakeSteps_27 : decode cX2_brakeSteps 27 = .ok (.ifCond .lt 20, 3) := by decide +kernel
theorem dX2_brakeSteps_30 : decode cX2_brakeSteps 30 = .ok (.aload_n 1, 1) := by decide +kernel
theorem dX2_brakeSteps_31 : decode cX2_brakeSteps 31 = .ok (.invokevirtual 225, 3) := by decide +kernel
theorem dX2_brakeSteps_34 : decode cX2_brakeSteps 34 = .ok (.iload_n 3, 1) := by decide +kernel
theorem dX2_brakeSteps_35 : decode cX2_brakeSteps 35 = .ok (.bipush 20, 2) := by decide +kernel
theorem dX2_brakeSteps_37 : decode cX2_brakeSteps 37 = .ok (.iadd, 1) := by decide +kernel
theorem dX2_brakeSteps_38 : decode cX2_brakeSteps 38 = .ok (.i2d, 1) := by decide +kernel
theorem dX2_brakeSteps_39 : decode cX2_brakeSteps 39 = .ok (.dcmp .g, 1) := by decide +kernel
theorem dX2_brakeSteps_40 : decode cX2_brakeSteps 40 = .ok (.ifCond .gt 7, 3) := by decide +kernel
theorem dX2_brakeSteps_43 : decode cX2_brakeSteps 43 = .ok (.iconst 1, 1) := by decide +kernel
theorem dX2_brakeSteps_44 : decode cX2_brakeSteps 44 = .ok (.goto 4, 3) := by decide +kernel
theorem dX2_brakeSteps_47 : decode cX2_brakeSteps 47 = .ok (.iconst 0, 1) := by decide +kernel
theorem dX2_brakeSteps_48 : decode cX2_brakeSteps 48 = .ok (.istore 6, 2) := by decide +kernel
theorem dX2_brakeSteps_50 : decode cX2_brakeSteps 50 = .ok (.iload 6, 2) := by decide +kernel
theorem dX2_brakeSteps_52 : decode cX2_brakeSteps 52 = .ok (.ifCond .eq 13, 3) := by decide +kernel
theorem dX2_brakeSteps_55 : decode cX2_brakeSteps 55 = .ok (.aload_n 1, 1) := by decide +kernel
theorem dX2_brakeSteps_56 : decode cX2_brakeSteps 56 = .ok (.getfield 168, 3) := by decide +kernel
theorem dX2_brakeSteps_59 : decode cX2_brakeSteps 59 = .ok (.dload 4, 2) := by decide +kernel
theorem dX2_brakeSteps_61 : decode cX2_brakeSteps 61 = .ok (.dcmp .g, 1) := by decide +kernel
theorem dX2_brakeSteps_62 : decode cX2_brakeSteps 62 = .ok (.ifCond .gt 5, 3) := by decide +kernel
theorem dX2_brakeSteps_65 : decode cX2_brakeSteps 65 = .ok (.iconst 0, 1) := by decide +kernel
theorem dX2_brakeSteps_66 : decode cX2_brakeSteps 66 = .ok (.ireturn, 1) := by decide +kernel
theorem dX2_brakeSteps_67 : decode cX2_brakeSteps 67 = .ok (.aload_n 1, 1) := by decide +kernel
theorem dX2_brakeSteps_68 : decode cX2_brakeSteps 68 = .ok (.getfield 168, 3) := by decide +kernel
theorem dX2_brakeSteps_71 : decode cX2_brakeSteps 71 = .ok (.dload 4, 2) := by decide +kernel
theorem dX2_brakeSteps_73 : decode cX2_brakeSteps 73 = .ok (.dsub, 1) := by decide +kernel
theorem dX2_brakeSteps_74 : decode cX2_brakeSteps 74 = .ok (.ldc2_w 274, 3) := by decide +kernel
theorem dX2_brakeSteps_77 : decode cX2_brakeSteps 77 = .ok (.dmul, 1) := by decide +kernel
theorem dX2_brakeSteps_78 : decode cX2_brakeSteps 78 = .ok (.d2i, 1) := by decide +kernel
theorem dX2_brakeSteps_79 : decode cX2_brakeSteps 79 = .ok (.iconst 1, 1) := by decide +kernel
theorem dX2_brakeSteps_80 : decode cX2_brakeSteps 80 = .ok (.iadd, 1) := by decide +kernel
theorem dX2_brakeSteps_81 : decode cX2_brakeSteps 81 = .ok (.bipush 15, 2) := by decide +kernel
theorem dX2_brakeSteps_83 : decode cX2_brakeSteps 83 = .ok (.invokestatic 276, 3) := by decide +kernel
theorem dX2_brakeSteps_86 : decode cX2_brakeSteps 86 = .ok (.ireturn, 1) := by decide +kernel
theorem dX2_passPoints_0 : decode cX2_passPoints 0 = .ok (.iconst 0, 1) := by decide +kernel
theorem dX2_passPoints_1 : decode cX2_passPoints 1 = .ok (.istore 4, 2) := by decide +kernel
theorem dX2_passPoints_3 : decode cX2_passPoints 3 = .ok (.iload 4, 2) := by decide +kernel
theorem dX2_passPoints_5 : decode cX2_passPoints 5 = .ok (.iconst 3, 1) := by decide +kernel
theorem dX2_passPoints_6 : decode cX2_passPoints 6 = .ok (.if_icmp .ge 56, 3) := by decide +kernel
theorem dX2_passPoints_9 : decode cX2_passPoints 9 = .ok (.aload_n 1, 1) := by decide +kernel
theorem dX2_passPoints_10 : decode cX2_passPoints 10 = .ok (.getfield 174, 3) := by decide +kernel
theorem dX2_passPoints_13 : decode cX2_passPoints 13 = .ok (.invokestatic 131, 3) := by decide +kernel
theorem dX2_passPoints_16 : decode cX2_passPoints 16 = .ok (.ifCond .eq 46, 3) := by decide +kernel
theorem dX2_passPoints_19 : decode cX2_passPoints 19 = .ok (.aload_n 1, 1) := by decide +kernel
theorem dX2_passPoints_20 : decode cX2_passPoints 20 = .ok (.getfield 174, 3) := by decide +kernel
theorem dX2_passPoints_23 : decode cX2_passPoints 23 = .ok (.invokestatic 222, 3) := by decide +kernel
theorem dX2_passPoints_26 : decode cX2_passPoints 26 = .ok (.istore 5, 2) := by decide +kernel
theorem dX2_passPoints_28 : decode cX2_passPoints 28 = .ok (.dload_n 2, 1) := by decide +kernel
theorem dX2_passPoints_29 : decode cX2_passPoints 29 = .ok (.iload 5, 2) := by decide +kernel
theorem dX2_passPoints_31 : decode cX2_passPoints 31 = .ok (.i2d, 1) := by decide +kernel
theorem dX2_passPoints_32 : decode cX2_passPoints 32 = .ok (.dcmp .g, 1) := by decide +kernel
theorem dX2_passPoints_33 : decode cX2_passPoints 33 = .ok (.ifCond .ge 23, 3) := by decide +kernel
theorem dX2_passPoints_36 : decode cX2_passPoints 36 = .ok (.aload_n 1, 1) := by decide +kernel
theorem dX2_passPoints_37 : decode cX2_passPoints 37 = .ok (.getfield 165, 3) := by decide +kernel
theorem dX2_passPoints_40 : decode cX2_passPoints 40 = .ok (.iload 5, 2) := by decide +kernel
theorem dX2_passPoints_42 : decode cX2_passPoints 42 = .ok (.i2d, 1) := by decide +kernel
theorem dX2_passPoints_43 : decode cX2_passPoints 43 = .ok (.dcmp .l, 1) := by decide +kernel
theorem dX2_passPoints_44 : decode cX2_passPoints 44 = .ok (.ifCond .lt 12, 3) := by decide +kernel
theorem dX2_passPoints_47 : decode cX2_passPoints 47 = .ok (.aload_n 0, 1) := by decide +kernel
theorem dX2_passPoints_48 : decode cX2_passPoints 48 = .ok (.aload_n 1, 1) := by decide +kernel
theorem dX2_passPoints_49 : decode cX2_passPoints 49 = .ok (.aload_n 1, 1) := by decide +kernel
theorem dX2_passPoints_50 : decode cX2_passPoints 50 = .ok (.getfield 174, 3) := by decide +kernel
theorem dX2_passPoints_53 : decode cX2_passPoints 53 = .ok (.invokevirtual 281, 3) := by decide +kernel
theorem dX2_passPoints_56 : decode cX2_passPoints 56 = .ok (.iinc 4 1, 3) := by decide +kernel
theorem dX2_passPoints_59 : decode cX2_passPoints 59 = .ok (.goto (-56), 3) := by decide +kernel
theorem dX2_passPoints_62 : decode cX2_passPoints 62 = .ok (.return_, 1) := by decide +kernel
theorem dX2_pass_0 : decode cX2_pass 0 = .ok (.aload_n 0, 1) := by decide +kernel
theorem dX2_pass_1 : decode cX2_pass 1 = .ok (.getfield 26, 3) := by decide +kernel
theorem dX2_pass_4 : decode cX2_pass 4 = .ok (.iload_n 2, 1) := by decide +kernel
theorem dX2_pass_5 : decode cX2_pass 5 = .ok (.iaload, 1) := by decide +kernel
theorem dX2_pass_6 : decode cX2_pass 6 = .ok (.istore_n 3, 1) := by decide +kernel
theorem dX2_pass_7 : decode cX2_pass 7 = .ok (.iload_n 2, 1) := by decide +kernel
theorem dX2_pass_8 : decode cX2_pass 8 = .ok (.aload_n 1, 1) := by decide +kernel
theorem dX2_pass_9 : decode cX2_pass 9 = .ok (.getfield 285, 3) := by decide +kernel
theorem dX2_pass_12 : decode cX2_pass 12 = .ok (.invokestatic 212, 3) := by decide +kernel
theorem dX2_pass_15 : decode cX2_pass 15 = .ok (.ifCond .eq 29, 3) := by decide +kernel
theorem dX2_pass_18 : decode cX2_pass 18 = .ok (.aload_n 1, 1) := by decide +kernel
theorem dX2_pass_19 : decode cX2_pass 19 = .ok (.iload_n 2, 1) := by decide +kernel
theorem dX2_pass_20 : decode cX2_pass 20 = .ok (.invokevirtual 219, 3) := by decide +kernel
theorem dX2_pass_23 : decode cX2_pass 23 = .ok (.iload_n 3, 1) := by decide +kernel
theorem dX2_pass_24 : decode cX2_pass 24 = .ok (.if_icmp .eq 20, 3) := by decide +kernel
theorem dX2_pass_27 : decode cX2_pass 27 = .ok (.aload_n 0, 1) := by decide +kernel
theorem dX2_pass_28 : decode cX2_pass 28 = .ok (.getfield 22, 3) := by decide +kernel
theorem dX2_pass_31 : decode cX2_pass 31 = .ok (.iconst 0, 1) := by decide +kernel
theorem dX2_pass_32 : decode cX2_pass 32 = .ok (.aload_n 1, 1) := by decide +kernel
theorem dX2_pass_33 : decode cX2_pass 33 = .ok (.getfield 119, 3) := by decide +kernel
theorem dX2_pass_36 : decode cX2_pass 36 = .ok (.iload_n 2, 1) := by decide +kernel
theorem dX2_pass_37 : decode cX2_pass 37 = .ok (.aload_n 0, 1) := by decide +kernel
theorem dX2_pass_38 : decode cX2_pass 38 = .ok (.getfield 67, 3) := by decide +kernel
theorem dX2_pass_41 : decode cX2_pass 41 = .ok (.invokevirtual 288, 3) := by decide +kernel
theorem dX2_pass_44 : decode cX2_pass 44 = .ok (.aload_n 1, 1) := by decide +kernel
theorem dX2_pass_45 : decode cX2_pass 45 = .ok (.iload_n 2, 1) := by decide +kernel
theorem dX2_pass_46 : decode cX2_pass 46 = .ok (.iload_n 3, 1) := by decide +kernel
theorem dX2_pass_47 : decode cX2_pass 47 = .ok (.invokestatic 292, 3) := by decide +kernel
theorem dX2_pass_50 : decode cX2_pass 50 = .ok (.putfield 174, 3) := by decide +kernel
theorem dX2_pass_53 : decode cX2_pass 53 = .ok (.return_, 1) := by decide +kernel
theorem dX2_catchAll_0 : decode cX2_catchAll 0 = .ok (.iconst 0, 1) := by decide +kernel
theorem dX2_catchAll_1 : decode cX2_catchAll 1 = .ok (.istore_n 1, 1) := by decide +kernel
theorem dX2_catchAll_2 : decode cX2_catchAll 2 = .ok (.iload_n 1, 1) := by decide +kernel
theorem dX2_catchAll_3 : decode cX2_catchAll 3 = .ok (.aload_n 0, 1) := by decide +kernel
theorem dX2_catchAll_4 : decode cX2_catchAll 4 = .ok (.getfield 16, 3) := by decide +kernel
theorem dX2_catchAll_7 : decode cX2_catchAll 7 = .ok (.invokevirtual 101, 3) := by decide +kernel
theorem dX2_catchAll_10 : decode cX2_catchAll 10 = .ok (.if_icmp .ge 50, 3) := by decide +kernel
theorem dX2_catchAll_13 : decode cX2_catchAll 13 = .ok (.aload_n 0, 1) := by decide +kernel
theorem dX2_catchAll_14 : decode cX2_catchAll 14 = .ok (.getfield 16, 3) := by decide +kernel
theorem dX2_catchAll_17 : decode cX2_catchAll 17 = .ok (.iload_n 1, 1) := by decide +kernel
theorem dX2_catchAll_18 : decode cX2_catchAll 18 = .ok (.invokevirtual 208, 3) := by decide +kernel
theorem dX2_catchAll_21 : decode cX2_catchAll 21 = .ok (.checkcast 110, 3) := by decide +kernel
theorem dX2_catchAll_24 : decode cX2_catchAll 24 = .ok (.astore_n 2, 1) := by decide +kernel
theorem dX2_catchAll_25 : decode cX2_catchAll 25 = .ok (.aload_n 0, 1) := by decide +kernel
theorem dX2_catchAll_26 : decode cX2_catchAll 26 = .ok (.iload_n 1, 1) := by decide +kernel
theorem dX2_catchAll_27 : decode cX2_catchAll 27 = .ok (.aload_n 2, 1) := by decide +kernel
theorem dX2_catchAll_28 : decode cX2_catchAll 28 = .ok (.invokevirtual 295, 3) := by decide +kernel
theorem dX2_catchAll_31 : decode cX2_catchAll 31 = .ok (.astore_n 3, 1) := by decide +kernel
theorem dX2_catchAll_32 : decode cX2_catchAll 32 = .ok (.aload_n 3, 1) := by decide +kernel
theorem dX2_catchAll_33 : decode cX2_catchAll 33 = .ok (.ifnull 21, 3) := by decide +kernel
theorem dX2_catchAll_36 : decode cX2_catchAll 36 = .ok (.aload_n 2, 1) := by decide +kernel
theorem dX2_catchAll_37 : decode cX2_catchAll 37 = .ok (.getfield 165, 3) := by decide +kernel
theorem dX2_catchAll_40 : decode cX2_catchAll 40 = .ok (.aload_n 3, 1) := by decide +kernel
theorem dX2_catchAll_41 : decode cX2_catchAll 41 = .ok (.invokevirtual 225, 3) := by decide +kernel
theorem dX2_catchAll_44 : decode cX2_catchAll 44 = .ok (.dcmp .l, 1) := by decide +kernel
theorem dX2_catchAll_45 : decode cX2_catchAll 45 = .ok (.ifCond .lt 9, 3) := by decide +kernel
theorem dX2_catchAll_48 : decode cX2_catchAll 48 = .ok (.aload_n 0, 1) := by decide +kernel
theorem dX2_catchAll_49 : decode cX2_catchAll 49 = .ok (.aload_n 2, 1) := by decide +kernel
theorem dX2_catchAll_50 : decode cX2_catchAll 50 = .ok (.aload_n 3, 1) := by decide +kernel
theorem dX2_catchAll_51 : decode cX2_catchAll 51 = .ok (.invokevirtual 299, 3) := by decide +kernel
theorem dX2_catchAll_54 : decode cX2_catchAll 54 = .ok (.iinc 1 1, 3) := by decide +kernel
theorem dX2_catchAll_57 : decode cX2_catchAll 57 = .ok (.goto (-55), 3) := by decide +kernel
theorem dX2_catchAll_60 : decode cX2_catchAll 60 = .ok (.return_, 1) := by decide +kernel
theorem dX2_aheadOf_0 : decode cX2_aheadOf 0 = .ok (.iload_n 1, 1) := by decide +kernel
theorem dX2_aheadOf_1 : decode cX2_aheadOf 1 = .ok (.iconst 1, 1) := by decide +kernel
theorem dX2_aheadOf_2 : decode cX2_aheadOf 2 = .ok (.isub, 1) := by decide +kernel
theorem dX2_aheadOf_3 : decode cX2_aheadOf 3 = .ok (.istore_n 3, 1) := by decide +kernel
theorem dX2_aheadOf_4 : decode cX2_aheadOf 4 = .ok (.iload_n 3, 1) := by decide +kernel
theorem dX2_aheadOf_5 : decode cX2_aheadOf 5 = .ok (.ifCond .lt 40, 3) := by decide +kernel
theorem dX2_aheadOf_8 : decode cX2_aheadOf 8 = .ok (.aload_n 0, 1) := by decide +kernel
theorem dX2_aheadOf_9 : decode cX2_aheadOf 9 = .ok (.getfield 16, 3) := by decide +kernel
theorem dX2_aheadOf_12 : decode cX2_aheadOf 12 = .ok (.iload_n 3, 1) := by decide +kernel
theorem dX2_aheadOf_13 : decode cX2_aheadOf 13 = .ok (.invokevirtual 208, 3) := by decide +kernel
theorem dX2_aheadOf_16 : decode cX2_aheadOf 16 = .ok (.checkcast 110, 3) := by decide +kernel
theorem dX2_aheadOf_19 : decode cX2_aheadOf 19 = .ok (.astore 4, 2) := by decide +kernel
theorem dX2_aheadOf_21 : decode cX2_aheadOf 21 = .ok (.aload_n 2, 1) := by decide +kernel
theorem dX2_aheadOf_22 : decode cX2_aheadOf 22 = .ok (.getfield 174, 3) := by decide +kernel
theorem dX2_aheadOf_25 : decode cX2_aheadOf 25 = .ok (.aload 4, 2) := by decide +kernel
theorem dX2_aheadOf_27 : decode cX2_aheadOf 27 = .ok (.getfield 174, 3) := by decide +kernel
theorem dX2_aheadOf_30 : decode cX2_aheadOf 30 = .ok (.invokestatic 231, 3) := by decide +kernel
theorem dX2_aheadOf_33 : decode cX2_aheadOf 33 = .ok (.ifCond .eq 6, 3) := by decide +kernel
theorem dX2_aheadOf_36 : decode cX2_aheadOf 36 = .ok (.aload 4, 2) := by decide +kernel
theorem dX2_aheadOf_38 : decode cX2_aheadOf 38 = .ok (.areturn, 1) := by decide +kernel
theorem dX2_aheadOf_39 : decode cX2_aheadOf 39 = .ok (.iinc 3 (-1), 3) := by decide +kernel
theorem dX2_aheadOf_42 : decode cX2_aheadOf 42 = .ok (.goto (-38), 3) := by decide +kernel
theorem dX2_aheadOf_45 : decode cX2_aheadOf 45 = .ok (.aconst_null, 1) := by decide +kernel
theorem dX2_aheadOf_46 : decode cX2_aheadOf 46 = .ok (.areturn, 1) := by decide +kernel
theorem dX2_catchUp_0 : decode cX2_catchUp 0 = .ok (.aload_n 1, 1) := by decide +kernel
theorem dX2_catchUp_1 : decode cX2_catchUp 1 = .ok (.getfield 303, 3) := by decide +kernel
theorem dX2_catchUp_4 : decode cX2_catchUp 4 = .ok (.aload_n 1, 1) := by decide +kernel
theorem dX2_catchUp_5 : decode cX2_catchUp 5 = .ok (.getfield 168, 3) := by decide +kernel
theorem dX2_catchUp_8 : decode cX2_catchUp 8 = .ok (.dmul, 1) := by decide +kernel
theorem dX2_catchUp_9 : decode cX2_catchUp 9 = .ok (.aload_n 2, 1) := by decide +kernel
theorem dX2_catchUp_10 : decode cX2_catchUp 10 = .ok (.getfield 303, 3) := by decide +kernel
theorem dX2_catchUp_13 : decode cX2_catchUp 13 = .ok (.aload_n 2, 1) := by decide +kernel
theorem dX2_catchUp_14 : decode cX2_catchUp 14 = .ok (.getfield 168, 3) := by decide +kernel
theorem dX2_catchUp_17 : decode cX2_catchUp 17 = .ok (.dmul, 1) := by decide +kernel
theorem dX2_catchUp_18 : decode cX2_catchUp 18 = .ok (.dadd, 1) := by decide +kernel
theorem dX2_catchUp_19 : decode cX2_catchUp 19 = .ok (.aload_n 1, 1) := by decide +kernel
theorem dX2_catchUp_20 : decode cX2_catchUp 20 = .ok (.getfield 303, 3) := by decide +kernel
theorem dX2_catchUp_23 : decode cX2_catchUp 23 = .ok (.aload_n 2, 1) := by decide +kernel
theorem dX2_catchUp_24 : decode cX2_catchUp 24 = .ok (.getfield 303, 3) := by decide +kernel
theorem dX2_catchUp_27 : decode cX2_catchUp 27 = .ok (.dadd, 1) := by decide +kernel
theorem dX2_catchUp_28 : decode cX2_catchUp 28 = .ok (.ddiv, 1) := by decide +kernel
theorem dX2_catchUp_29 : decode cX2_catchUp 29 = .ok (.dstore_n 3, 1) := by decide +kernel
theorem dX2_catchUp_30 : decode cX2_catchUp 30 = .ok (.aload_n 1, 1) := by decide +kernel
theorem dX2_catchUp_31 : decode cX2_catchUp 31 = .ok (.aload_n 2, 1) := by decide +kernel
theorem dX2_catchUp_32 : decode cX2_catchUp 32 = .ok (.invokevirtual 225, 3) := by decide +kernel
theorem dX2_catchUp_35 : decode cX2_catchUp 35 = .ok (.putfield 165, 3) := by decide +kernel
theorem dX2_catchUp_38 : decode cX2_catchUp 38 = .ok (.aload_n 1, 1) := by decide +kernel
theorem dX2_catchUp_39 : decode cX2_catchUp 39 = .ok (.dload_n 3, 1) := by decide +kernel
theorem dX2_catchUp_40 : decode cX2_catchUp 40 = .ok (.putfield 168, 3) := by decide +kernel
theorem dX2_catchUp_43 : decode cX2_catchUp 43 = .ok (.aload_n 2, 1) := by decide +kernel
theorem dX2_catchUp_44 : decode cX2_catchUp 44 = .ok (.dload_n 3, 1) := by decide +kernel
theorem dX2_catchUp_45 : decode cX2_catchUp 45 = .ok (.putfield 168, 3) := by decide +kernel
theorem dX2_catchUp_48 : decode cX2_catchUp 48 = .ok (.aload_n 1, 1) := by decide +kernel
theorem dX2_catchUp_49 : decode cX2_catchUp 49 = .ok (.getfield 184, 3) := by decide +kernel
theorem dX2_catchUp_52 : decode cX2_catchUp 52 = .ok (.aload_n 2, 1) := by decide +kernel
theorem dX2_catchUp_53 : decode cX2_catchUp 53 = .ok (.getfield 119, 3) := by decide +kernel
theorem dX2_catchUp_56 : decode cX2_catchUp 56 = .ok (.if_icmp .eq 31, 3) := by decide +kernel
theorem dX2_catchUp_59 : decode cX2_catchUp 59 = .ok (.aload_n 1, 1) := by decide +kernel
theorem dX2_catchUp_60 : decode cX2_catchUp 60 = .ok (.aload_n 2, 1) := by decide +kernel
theorem dX2_catchUp_61 : decode cX2_catchUp 61 = .ok (.getfield 119, 3) := by decide +kernel
theorem dX2_catchUp_64 : decode cX2_catchUp 64 = .ok (.putfield 184, 3) := by decide +kernel
theorem dX2_catchUp_67 : decode cX2_catchUp 67 = .ok (.aload_n 0, 1) := by decide +kernel
theorem dX2_catchUp_68 : decode cX2_catchUp 68 = .ok (.getfield 22, 3) := by decide +kernel
theorem dX2_catchUp_71 : decode cX2_catchUp 71 = .ok (.iconst 1, 1) := by decide +kernel
theorem dX2_catchUp_72 : decode cX2_catchUp 72 = .ok (.aload_n 1, 1) := by decide +kernel
theorem dX2_catchUp_73 : decode cX2_catchUp 73 = .ok (.getfield 119, 3) := by decide +kernel
theorem dX2_catchUp_76 : decode cX2_catchUp 76 = .ok (.aload_n 2, 1) := by decide +kernel
theorem dX2_catchUp_77 : decode cX2_catchUp 77 = .ok (.getfield 119, 3) := by decide +kernel
theorem dX2_catchUp_80 : decode cX2_catchUp 80 = .ok (.aload_n 0, 1) := by decide +kernel
theorem dX2_catchUp_81 : decode cX2_catchUp 81 = .ok (.getfield 67, 3) := by decide +kernel
theorem dX2_catchUp_84 : decode cX2_catchUp 84 = .ok (.invokevirtual 288, 3) := by decide +kernel
theorem dX2_catchUp_87 : decode cX2_catchUp 87 = .ok (.return_, 1) := by decide +kernel
theorem dX2_endAll_0 : decode cX2_endAll 0 = .ok (.iconst 0, 1) := by decide +kernel
theorem dX2_endAll_1 : decode cX2_endAll 1 = .ok (.istore_n 1, 1) := by decide +kernel
theorem dX2_endAll_2 : decode cX2_endAll 2 = .ok (.iload_n 1, 1) := by decide +kernel
theorem dX2_endAll_3 : decode cX2_endAll 3 = .ok (.aload_n 0, 1) := by decide +kernel
theorem dX2_endAll_4 : decode cX2_endAll 4 = .ok (.getfield 16, 3) := by decide +kernel
theorem dX2_endAll_7 : decode cX2_endAll 7 = .ok (.invokevirtual 101, 3) := by decide +kernel
theorem dX2_endAll_10 : decode cX2_endAll 10 = .ok (.if_icmp .ge 51, 3) := by decide +kernel
theorem dX2_endAll_13 : decode cX2_endAll 13 = .ok (.aload_n 0, 1) := by decide +kernel
theorem dX2_endAll_14 : decode cX2_endAll 14 = .ok (.getfield 16, 3) := by decide +kernel
theorem dX2_endAll_17 : decode cX2_endAll 17 = .ok (.iload_n 1, 1) := by decide +kernel
theorem dX2_endAll_18 : decode cX2_endAll 18 = .ok (.invokevirtual 208, 3) := by decide +kernel
theorem dX2_endAll_21 : decode cX2_endAll 21 = .ok (.checkcast 110, 3) := by decide +kernel
theorem dX2_endAll_24 : decode cX2_endAll 24 = .ok (.astore_n 2, 1) := by decide +kernel
theorem dX2_endAll_25 : decode cX2_endAll 25 = .ok (.aload_n 2, 1) := by decide +kernel
theorem dX2_endAll_26 : decode cX2_endAll 26 = .ok (.getfield 174, 3) := by decide +kernel
theorem dX2_endAll_29 : decode cX2_endAll 29 = .ok (.invokestatic 177, 3) := by decide +kernel
theorem dX2_endAll_32 : decode cX2_endAll 32 = .ok (.istore_n 3, 1) := by decide +kernel
theorem dX2_endAll_33 : decode cX2_endAll 33 = .ok (.iload_n 3, 1) := by decide +kernel
theorem dX2_endAll_34 : decode cX2_endAll 34 = .ok (.iconst (-1), 1) := by decide +kernel
theorem dX2_endAll_35 : decode cX2_endAll 35 = .ok (.if_icmp .eq 20, 3) := by decide +kernel
theorem dX2_endAll_38 : decode cX2_endAll 38 = .ok (.aload_n 2, 1) := by decide +kernel
theorem dX2_endAll_39 : decode cX2_endAll 39 = .ok (.getfield 165, 3) := by decide +kernel
theorem dX2_endAll_42 : decode cX2_endAll 42 = .ok (.ldc2_w 268, 3) := by decide +kernel
theorem dX2_endAll_45 : decode cX2_endAll 45 = .ok (.dcmp .l, 1) := by decide +kernel
theorem dX2_endAll_46 : decode cX2_endAll 46 = .ok (.ifCond .lt 9, 3) := by decide +kernel
theorem dX2_endAll_49 : decode cX2_endAll 49 = .ok (.aload_n 0, 1) := by decide +kernel
theorem dX2_endAll_50 : decode cX2_endAll 50 = .ok (.aload_n 2, 1) := by decide +kernel
theorem dX2_endAll_51 : decode cX2_endAll 51 = .ok (.iload_n 3, 1) := by decide +kernel
theorem dX2_endAll_52 : decode cX2_endAll 52 = .ok (.invokevirtual 306, 3) := by decide +kernel
theorem dX2_endAll_55 : decode cX2_endAll 55 = .ok (.iinc 1 1, 3) := by decide +kernel
theorem dX2_endAll_58 : decode cX2_endAll 58 = .ok (.goto (-56), 3) := by decide +kernel
theorem dX2_endAll_61 : decode cX2_endAll 61 = .ok (.aload_n 0, 1) := by decide +kernel
theorem dX2_endAll_62 : decode cX2_endAll 62 = .ok (.getfield 16, 3) := by decide +kernel
theorem dX2_endAll_65 : decode cX2_endAll 65 = .ok (.invokevirtual 101, 3) := by decide +kernel
theorem dX2_endAll_68 : decode cX2_endAll 68 = .ok (.iconst 1, 1) := by decide +kernel
theorem dX2_endAll_69 : decode cX2_endAll 69 = .ok (.isub, 1) := by decide +kernel
theorem dX2_endAll_70 : decode cX2_endAll 70 = .ok (.istore_n 1, 1) := by decide +kernel
theorem dX2_endAll_71 : decode cX2_endAll 71 = .ok (.iload_n 1, 1) := by decide +kernel
theorem dX2_endAll_72 : decode cX2_endAll 72 = .ok (.ifCond .lt 36, 3) := by decide +kernel
theorem dX2_endAll_75 : decode cX2_endAll 75 = .ok (.aload_n 0, 1) := by decide +kernel
theorem dX2_endAll_76 : decode cX2_endAll 76 = .ok (.getfield 16, 3) := by decide +kernel
theorem dX2_endAll_79 : decode cX2_endAll 79 = .ok (.iload_n 1, 1) := by decide +kernel
theorem dX2_endAll_80 : decode cX2_endAll 80 = .ok (.invokevirtual 208, 3) := by decide +kernel
theorem dX2_endAll_83 : decode cX2_endAll 83 = .ok (.checkcast 110, 3) := by decide +kernel
theorem dX2_endAll_86 : decode cX2_endAll 86 = .ok (.getfield 171, 3) := by decide +kernel
theorem dX2_endAll_89 : decode cX2_endAll 89 = .ok (.iconst 1, 1) := by decide +kernel
theorem dX2_endAll_90 : decode cX2_endAll 90 = .ok (.if_icmp .eq 12, 3) := by decide +kernel
theorem dX2_endAll_93 : decode cX2_endAll 93 = .ok (.aload_n 0, 1) := by decide +kernel
theorem dX2_endAll_94 : decode cX2_endAll 94 = .ok (.getfield 16, 3) := by decide +kernel
theorem dX2_endAll_97 : decode cX2_endAll 97 = .ok (.iload_n 1, 1) := by decide +kernel
theorem dX2_endAll_98 : decode cX2_endAll 98 = .ok (.invokevirtual 309, 3) := by decide +kernel
theorem dX2_endAll_101 : decode cX2_endAll 101 = .ok (.pop, 1) := by decide +kernel
theorem dX2_endAll_102 : decode cX2_endAll 102 = .ok (.iinc 1 (-1), 3) := by decide +kernel
theorem dX2_endAll_105 : decode cX2_endAll 105 = .ok (.goto (-34), 3) := by decide +kernel
theorem dX2_endAll_108 : decode cX2_endAll 108 = .ok (.return_, 1) := by decide +kernel
theorem dX2_endOnTrack_0 : decode cX2_endOnTrack 0 = .ok (.aload_n 1, 1) := by decide +kernel
theorem dX2_endOnTrack_1 : decode cX2_endOnTrack 1 = .ok (.getfield 165, 3) := by decide +kernel
theorem dX2_endOnTrack_4 : decode cX2_endOnTrack 4 = .ok (.ldc2_w 268, 3) := by decide +kernel
theorem dX2_endOnTrack_7 : decode cX2_endOnTrack 7 = .ok (.aload_n 0, 1) := by decide +kernel
theorem dX2_endOnTrack_8 : decode cX2_endOnTrack 8 = .ok (.getfield 41, 3) := by decide +kernel
theorem dX2_endOnTrack_11 : decode cX2_endOnTrack 11 = .ok (.iload_n 2, 1) := by decide +kernel
theorem dX2_endOnTrack_12 : decode cX2_endOnTrack 12 = .ok (.daload, 1) := by decide +kernel
theorem dX2_endOnTrack_13 : decode cX2_endOnTrack 13 = .ok (.dadd, 1) := by decide +kernel
theorem dX2_endOnTrack_14 : decode cX2_endOnTrack 14 = .ok (.dcmp .l, 1) := by decide +kernel
theorem dX2_endOnTrack_15 : decode cX2_endOnTrack 15 = .ok (.ifCond .lt 12, 3) := by decide +kernel
theorem dX2_endOnTrack_18 : decode cX2_endOnTrack 18 = .ok (.aload_n 0, 1) := by decide +kernel
theorem dX2_endOnTrack_19 : decode cX2_endOnTrack 19 = .ok (.aload_n 1, 1) := by decide +kernel
theorem dX2_endOnTrack_20 : decode cX2_endOnTrack 20 = .ok (.iload_n 2, 1) := by decide +kernel
theorem dX2_endOnTrack_21 : decode cX2_endOnTrack 21 = .ok (.invokevirtual 312, 3) := by decide +kernel
theorem dX2_endOnTrack_24 : decode cX2_endOnTrack 24 = .ok (.goto 29, 3) := by decide +kernel
theorem dX2_endOnTrack_27 : decode cX2_endOnTrack 27 = .ok (.aload_n 1, 1) := by decide +kernel
theorem dX2_endOnTrack_28 : decode cX2_endOnTrack 28 = .ok (.getfield 168, 3) := by decide +kernel
theorem dX2_endOnTrack_31 : decode cX2_endOnTrack 31 = .ok (.dconst 0, 1) := by decide +kernel
theorem dX2_endOnTrack_32 : decode cX2_endOnTrack 32 = .ok (.dcmp .l, 1) := by decide +kernel
theorem dX2_endOnTrack_33 : decode cX2_endOnTrack 33 = .ok (.ifCond .ne 20, 3) := by decide +kernel
theorem dX2_endOnTrack_36 : decode cX2_endOnTrack 36 = .ok (.aload_n 1, 1) := by decide +kernel
theorem dX2_endOnTrack_37 : decode cX2_endOnTrack 37 = .ok (.invokevirtual 225, 3) := by decide +kernel
theorem dX2_endOnTrack_40 : decode cX2_endOnTrack 40 = .ok (.ldc2_w 268, 3) := by decide +kernel
theorem dX2_endOnTrack_43 : decode cX2_endOnTrack 43 = .ok (.dcmp .l, 1) := by decide +kernel
theorem dX2_endOnTrack_44 : decode cX2_endOnTrack 44 = .ok (.ifCond .lt 9, 3) := by decide +kernel
theorem dX2_endOnTrack_47 : decode cX2_endOnTrack 47 = .ok (.aload_n 0, 1) := by decide +kernel
theorem dX2_endOnTrack_48 : decode cX2_endOnTrack 48 = .ok (.aload_n 1, 1) := by decide +kernel
theorem dX2_endOnTrack_49 : decode cX2_endOnTrack 49 = .ok (.iload_n 2, 1) := by decide +kernel
theorem dX2_endOnTrack_50 : decode cX2_endOnTrack 50 = .ok (.invokevirtual 315, 3) := by decide +kernel
theorem dX2_endOnTrack_53 : decode cX2_endOnTrack 53 = .ok (.return_, 1) := by decide +kernel
theorem dX2_land_0 : decode cX2_land 0 = .ok (.aload_n 0, 1) := by decide +kernel
theorem dX2_land_1 : decode cX2_land 1 = .ok (.getfield 41, 3) := by decide +kernel
theorem dX2_land_4 : decode cX2_land 4 = .ok (.iload_n 2, 1) := by decide +kernel
theorem dX2_land_5 : decode cX2_land 5 = .ok (.daload, 1) := by decide +kernel
theorem dX2_land_6 : decode cX2_land 6 = .ok (.aload_n 1, 1) := by decide +kernel
theorem dX2_land_7 : decode cX2_land 7 = .ok (.getfield 318, 3) := by decide +kernel
theorem dX2_land_10 : decode cX2_land 10 = .ok (.dsub, 1) := by decide +kernel
theorem dX2_land_11 : decode cX2_land 11 = .ok (.dstore_n 3, 1) := by decide +kernel
theorem dX2_land_12 : decode cX2_land 12 = .ok (.aload_n 0, 1) := by decide +kernel
theorem dX2_land_13 : decode cX2_land 13 = .ok (.getfield 41, 3) := by decide +kernel
theorem dX2_land_16 : decode cX2_land 16 = .ok (.iload_n 2, 1) := by decide +kernel
theorem dX2_land_17 : decode cX2_land 17 = .ok (.dload_n 3, 1) := by decide +kernel
theorem dX2_land_18 : decode cX2_land 18 = .ok (.dconst 0, 1) := by decide +kernel
theorem dX2_land_19 : decode cX2_land 19 = .ok (.dcmp .g, 1) := by decide +kernel
theorem dX2_land_20 : decode cX2_land 20 = .ok (.ifCond .ge 7, 3) := by decide +kernel
theorem dX2_land_23 : decode cX2_land 23 = .ok (.dconst 0, 1) := by decide +kernel
theorem dX2_land_24 : decode cX2_land 24 = .ok (.goto 4, 3) := by decide +kernel
theorem dX2_land_27 : decode cX2_land 27 = .ok (.dload_n 3, 1) := by decide +kernel
theorem dX2_land_28 : decode cX2_land 28 = .ok (.dastore, 1) := by decide +kernel
theorem dX2_land_29 : decode cX2_land 29 = .ok (.aload_n 0, 1) := by decide +kernel
theorem dX2_land_30 : decode cX2_land 30 = .ok (.aload_n 1, 1) := by decide +kernel
theorem dX2_land_31 : decode cX2_land 31 = .ok (.getfield 168, 3) := by decide +kernel
theorem dX2_land_34 : decode cX2_land 34 = .ok (.aload_n 0, 1) := by decide +kernel
theorem dX2_land_35 : decode cX2_land 35 = .ok (.getfield 54, 3) := by decide +kernel
theorem dX2_land_38 : decode cX2_land 38 = .ok (.dcmp .l, 1) := by decide +kernel
theorem dX2_land_39 : decode cX2_land 39 = .ok (.ifCond .le 10, 3) := by decide +kernel
theorem dX2_land_42 : decode cX2_land 42 = .ok (.aload_n 1, 1) := by decide +kernel
theorem dX2_land_43 : decode cX2_land 43 = .ok (.getfield 168, 3) := by decide +kernel
theorem dX2_land_46 : decode cX2_land 46 = .ok (.goto 7, 3) := by decide +kernel
theorem dX2_land_49 : decode cX2_land 49 = .ok (.aload_n 0, 1) := by decide +kernel
theorem dX2_land_50 : decode cX2_land 50 = .ok (.getfield 54, 3) := by decide +kernel
theorem dX2_land_53 : decode cX2_land 53 = .ok (.putfield 54, 3) := by decide +kernel
theorem dX2_land_56 : decode cX2_land 56 = .ok (.aload_n 1, 1) := by decide +kernel
theorem dX2_land_57 : decode cX2_land 57 = .ok (.iconst 2, 1) := by decide +kernel
theorem dX2_land_58 : decode cX2_land 58 = .ok (.putfield 171, 3) := by decide +kernel
theorem dX2_land_61 : decode cX2_land 61 = .ok (.aload_n 0, 1) := by decide +kernel
theorem dX2_land_62 : decode cX2_land 62 = .ok (.dup, 1) := by decide +kernel
theorem dX2_land_63 : decode cX2_land 63 = .ok (.getfield 61, 3) := by decide +kernel
theorem dX2_land_66 : decode cX2_land 66 = .ok (.iconst 1, 1) := by decide +kernel
theorem dX2_land_67 : decode cX2_land 67 = .ok (.iadd, 1) := by decide +kernel
theorem dX2_land_68 : decode cX2_land 68 = .ok (.putfield 61, 3) := by decide +kernel
theorem dX2_land_71 : decode cX2_land 71 = .ok (.aload_n 0, 1) := by decide +kernel
theorem dX2_land_72 : decode cX2_land 72 = .ok (.aload_n 1, 1) := by decide +kernel
theorem dX2_land_73 : decode cX2_land 73 = .ok (.iload_n 2, 1) := by decide +kernel
theorem dX2_land_74 : decode cX2_land 74 = .ok (.invokevirtual 321, 3) := by decide +kernel
theorem dX2_land_77 : decode cX2_land 77 = .ok (.aload_n 0, 1) := by decide +kernel
theorem dX2_land_78 : decode cX2_land 78 = .ok (.getfield 22, 3) := by decide +kernel
theorem dX2_land_81 : decode cX2_land 81 = .ok (.iconst 2, 1) := by decide +kernel
theorem dX2_land_82 : decode cX2_land 82 = .ok (.aload_n 1, 1) := by decide +kernel
theorem dX2_land_83 : decode cX2_land 83 = .ok (.getfield 119, 3) := by decide +kernel
theorem dX2_land_86 : decode cX2_land 86 = .ok (.iload_n 2, 1) := by decide +kernel
theorem dX2_land_87 : decode cX2_land 87 = .ok (.aload_n 0, 1) := by decide +kernel
theorem dX2_land_88 : decode cX2_land 88 = .ok (.getfield 67, 3) := by decide +kernel
theorem dX2_land_91 : decode cX2_land 91 = .ok (.invokevirtual 288, 3) := by decide +kernel
theorem dX2_land_94 : decode cX2_land 94 = .ok (.return_, 1) := by decide +kernel
theorem dX2_stand_0 : decode cX2_stand 0 = .ok (.aload_n 0, 1) := by decide +kernel
theorem dX2_stand_1 : decode cX2_stand 1 = .ok (.getfield 41, 3) := by decide +kernel
theorem dX2_stand_4 : decode cX2_stand 4 = .ok (.iload_n 2, 1) := by decide +kernel
theorem dX2_stand_5 : decode cX2_stand 5 = .ok (.aload_n 1, 1) := by decide +kernel
theorem dX2_stand_6 : decode cX2_stand 6 = .ok (.invokevirtual 225, 3) := by decide +kernel
theorem dX2_stand_9 : decode cX2_stand 9 = .ok (.ldc2_w 268, 3) := by decide +kernel
theorem dX2_stand_12 : decode cX2_stand 12 = .ok (.dsub, 1) := by decide +kernel
theorem dX2_stand_13 : decode cX2_stand 13 = .ok (.dastore, 1) := by decide +kernel
theorem dX2_stand_14 : decode cX2_stand 14 = .ok (.aload_n 1, 1) := by decide +kernel
theorem dX2_stand_15 : decode cX2_stand 15 = .ok (.iconst 3, 1) := by decide +kernel
theorem dX2_stand_16 : decode cX2_stand 16 = .ok (.putfield 171, 3) := by decide +kernel
theorem dX2_stand_19 : decode cX2_stand 19 = .ok (.aload_n 0, 1) := by decide +kernel
theorem dX2_stand_20 : decode cX2_stand 20 = .ok (.dup, 1) := by decide +kernel
theorem dX2_stand_21 : decode cX2_stand 21 = .ok (.getfield 64, 3) := by decide +kernel
theorem dX2_stand_24 : decode cX2_stand 24 = .ok (.iconst 1, 1) := by decide +kernel
theorem dX2_stand_25 : decode cX2_stand 25 = .ok (.iadd, 1) := by decide +kernel
theorem dX2_stand_26 : decode cX2_stand 26 = .ok (.putfield 64, 3) := by decide +kernel
theorem dX2_stand_29 : decode cX2_stand 29 = .ok (.aload_n 0, 1) := by decide +kernel
theorem dX2_stand_30 : decode cX2_stand 30 = .ok (.aload_n 1, 1) := by decide +kernel
theorem dX2_stand_31 : decode cX2_stand 31 = .ok (.iload_n 2, 1) := by decide +kernel
theorem dX2_stand_32 : decode cX2_stand 32 = .ok (.invokevirtual 321, 3) := by decide +kernel
theorem dX2_stand_35 : decode cX2_stand 35 = .ok (.aload_n 0, 1) := by decide +kernel
theorem dX2_stand_36 : decode cX2_stand 36 = .ok (.getfield 22, 3) := by decide +kernel
theorem dX2_stand_39 : decode cX2_stand 39 = .ok (.iconst 3, 1) := by decide +kernel
theorem dX2_stand_40 : decode cX2_stand 40 = .ok (.aload_n 1, 1) := by decide +kernel
theorem dX2_stand_41 : decode cX2_stand 41 = .ok (.getfield 119, 3) := by decide +kernel
theorem dX2_stand_44 : decode cX2_stand 44 = .ok (.iload_n 2, 1) := by decide +kernel
theorem dX2_stand_45 : decode cX2_stand 45 = .ok (.aload_n 0, 1) := by decide +kernel
theorem dX2_stand_46 : decode cX2_stand 46 = .ok (.getfield 67, 3) := by decide +kernel
theorem dX2_stand_49 : decode cX2_stand 49 = .ok (.invokevirtual 288, 3) := by decide +kernel
theorem dX2_stand_52 : decode cX2_stand 52 = .ok (.return_, 1) := by decide +kernel
theorem dX2_enterSiding_0 : decode cX2_enterSiding 0 = .ok (.aload_n 0, 1) := by decide +kernel
theorem dX2_enterSiding_1 : decode cX2_enterSiding 1 = .ok (.getfield 44, 3) := by decide +kernel
theorem dX2_enterSiding_4 : decode cX2_enterSiding 4 = .ok (.iload_n 2, 1) := by decide +kernel
theorem dX2_enterSiding_5 : decode cX2_enterSiding 5 = .ok (.iaload, 1) := by decide +kernel
theorem dX2_enterSiding_6 : decode cX2_enterSiding 6 = .ok (.istore_n 3, 1) := by decide +kernel
theorem dX2_enterSiding_7 : decode cX2_enterSiding 7 = .ok (.iload_n 3, 1) := by decide +kernel
theorem dX2_enterSiding_8 : decode cX2_enterSiding 8 = .ok (.bipush 60, 2) := by decide +kernel
theorem dX2_enterSiding_10 : decode cX2_enterSiding 10 = .ok (.if_icmp .ge 27, 3) := by decide +kernel
theorem dX2_enterSiding_13 : decode cX2_enterSiding 13 = .ok (.aload_n 0, 1) := by decide +kernel
theorem dX2_enterSiding_14 : decode cX2_enterSiding 14 = .ok (.getfield 47, 3) := by decide +kernel
theorem dX2_enterSiding_17 : decode cX2_enterSiding 17 = .ok (.iload_n 2, 1) := by decide +kernel
theorem dX2_enterSiding_18 : decode cX2_enterSiding 18 = .ok (.bipush 60, 2) := by decide +kernel
theorem dX2_enterSiding_20 : decode cX2_enterSiding 20 = .ok (.imul, 1) := by decide +kernel
theorem dX2_enterSiding_21 : decode cX2_enterSiding 21 = .ok (.iload_n 3, 1) := by decide +kernel
theorem dX2_enterSiding_22 : decode cX2_enterSiding 22 = .ok (.iadd, 1) := by decide +kernel
theorem dX2_enterSiding_23 : decode cX2_enterSiding 23 = .ok (.aload_n 1, 1) := by decide +kernel
theorem dX2_enterSiding_24 : decode cX2_enterSiding 24 = .ok (.getfield 119, 3) := by decide +kernel
theorem dX2_enterSiding_27 : decode cX2_enterSiding 27 = .ok (.iastore, 1) := by decide +kernel
theorem dX2_enterSiding_28 : decode cX2_enterSiding 28 = .ok (.aload_n 0, 1) := by decide +kernel
theorem dX2_enterSiding_29 : decode cX2_enterSiding 29 = .ok (.getfield 44, 3) := by decide +kernel
theorem dX2_enterSiding_32 : decode cX2_enterSiding 32 = .ok (.iload_n 2, 1) := by decide +kernel
theorem dX2_enterSiding_33 : decode cX2_enterSiding 33 = .ok (.iload_n 3, 1) := by decide +kernel
theorem dX2_enterSiding_34 : decode cX2_enterSiding 34 = .ok (.iconst 1, 1) := by decide +kernel
theorem dX2_enterSiding_35 : decode cX2_enterSiding 35 = .ok (.iadd, 1) := by decide +kernel
theorem dX2_enterSiding_36 : decode cX2_enterSiding 36 = .ok (.iastore, 1) := by decide +kernel
theorem dX2_enterSiding_37 : decode cX2_enterSiding 37 = .ok (.return_, 1) := by decide +kernel
theorem dX2_pushNext_0 : decode cX2_pushNext 0 = .ok (.aload_n 0, 1) := by decide +kernel
theorem dX2_pushNext_1 : decode cX2_pushNext 1 = .ok (.getfield 50, 3) := by decide +kernel
theorem dX2_pushNext_4 : decode cX2_pushNext 4 = .ok (.dconst 0, 1) := by decide +kernel
theorem dX2_pushNext_5 : decode cX2_pushNext 5 = .ok (.dcmp .l, 1) := by decide +kernel
theorem dX2_pushNext_6 : decode cX2_pushNext 6 = .ok (.ifCond .le 76, 3) := by decide +kernel
theorem dX2_pushNext_9 : decode cX2_pushNext 9 = .ok (.aload_n 0, 1) := by decide +kernel
theorem dX2_pushNext_10 : decode cX2_pushNext 10 = .ok (.getfield 57, 3) := by decide +kernel
theorem dX2_pushNext_13 : decode cX2_pushNext 13 = .ok (.aload_n 0, 1) := by decide +kernel
theorem dX2_pushNext_14 : decode cX2_pushNext 14 = .ok (.getfield 10, 3) := by decide +kernel
theorem dX2_pushNext_17 : decode cX2_pushNext 17 = .ok (.invokevirtual 101, 3) := by decide +kernel
theorem dX2_pushNext_20 : decode cX2_pushNext 20 = .ok (.if_icmp .ge 62, 3) := by decide +kernel
theorem dX2_pushNext_23 : decode cX2_pushNext 23 = .ok (.aload_n 0, 1) := by decide +kernel
theorem dX2_pushNext_24 : decode cX2_pushNext 24 = .ok (.invokevirtual 324, 3) := by decide +kernel
theorem dX2_pushNext_27 : decode cX2_pushNext 27 = .ok (.ifCond .eq 55, 3) := by decide +kernel
theorem dX2_pushNext_30 : decode cX2_pushNext 30 = .ok (.aload_n 0, 1) := by decide +kernel
theorem dX2_pushNext_31 : decode cX2_pushNext 31 = .ok (.getfield 10, 3) := by decide +kernel
theorem dX2_pushNext_34 : decode cX2_pushNext 34 = .ok (.aload_n 0, 1) := by decide +kernel
theorem dX2_pushNext_35 : decode cX2_pushNext 35 = .ok (.getfield 57, 3) := by decide +kernel
theorem dX2_pushNext_38 : decode cX2_pushNext 38 = .ok (.invokevirtual 208, 3) := by decide +kernel
theorem dX2_pushNext_41 : decode cX2_pushNext 41 = .ok (.checkcast 110, 3) := by decide +kernel
theorem dX2_pushNext_44 : decode cX2_pushNext 44 = .ok (.astore_n 1, 1) := by decide +kernel
theorem dX2_pushNext_45 : decode cX2_pushNext 45 = .ok (.aload_n 0, 1) := by decide +kernel
theorem dX2_pushNext_46 : decode cX2_pushNext 46 = .ok (.dup, 1) := by decide +kernel
theorem dX2_pushNext_47 : decode cX2_pushNext 47 = .ok (.getfield 57, 3) := by decide +kernel
theorem dX2_pushNext_50 : decode cX2_pushNext 50 = .ok (.iconst 1, 1) := by decide +kernel
theorem dX2_pushNext_51 : decode cX2_pushNext 51 = .ok (.iadd, 1) := by decide +kernel
theorem dX2_pushNext_52 : decode cX2_pushNext 52 = .ok (.putfield 57, 3) := by decide +kernel
theorem dX2_pushNext_55 : decode cX2_pushNext 55 = .ok (.aload_n 1, 1) := by decide +kernel
theorem dX2_pushNext_56 : decode cX2_pushNext 56 = .ok (.iconst 1, 1) := by decide +kernel
theorem dX2_pushNext_57 : decode cX2_pushNext 57 = .ok (.putfield 171, 3) := by decide +kernel
theorem dX2_pushNext_60 : decode cX2_pushNext 60 = .ok (.aload_n 1, 1) := by decide +kernel
theorem dX2_pushNext_61 : decode cX2_pushNext 61 = .ok (.dconst 0, 1) := by decide +kernel
theorem dX2_pushNext_62 : decode cX2_pushNext 62 = .ok (.putfield 165, 3) := by decide +kernel
theorem dX2_pushNext_65 : decode cX2_pushNext 65 = .ok (.aload_n 1, 1) := by decide +kernel
theorem dX2_pushNext_66 : decode cX2_pushNext 66 = .ok (.aload_n 0, 1) := by decide +kernel
theorem dX2_pushNext_67 : decode cX2_pushNext 67 = .ok (.getfield 50, 3) := by decide +kernel
theorem dX2_pushNext_70 : decode cX2_pushNext 70 = .ok (.putfield 168, 3) := by decide +kernel
theorem dX2_pushNext_73 : decode cX2_pushNext 73 = .ok (.aload_n 0, 1) := by decide +kernel
theorem dX2_pushNext_74 : decode cX2_pushNext 74 = .ok (.getfield 16, 3) := by decide +kernel
theorem dX2_pushNext_77 : decode cX2_pushNext 77 = .ok (.aload_n 1, 1) := by decide +kernel
theorem dX2_pushNext_78 : decode cX2_pushNext 78 = .ok (.invokevirtual 115, 3) := by decide +kernel
theorem dX2_pushNext_81 : decode cX2_pushNext 81 = .ok (.pop, 1) := by decide +kernel
theorem dX2_pushNext_82 : decode cX2_pushNext 82 = .ok (.return_, 1) := by decide +kernel
theorem dX2_isCrestClear_0 : decode cX2_isCrestClear 0 = .ok (.iconst 0, 1) := by decide +kernel
theorem dX2_isCrestClear_1 : decode cX2_isCrestClear 1 = .ok (.istore_n 1, 1) := by decide +kernel
theorem dX2_isCrestClear_2 : decode cX2_isCrestClear 2 = .ok (.iload_n 1, 1) := by decide +kernel
theorem dX2_isCrestClear_3 : decode cX2_isCrestClear 3 = .ok (.aload_n 0, 1) := by decide +kernel
theorem dX2_isCrestClear_4 : decode cX2_isCrestClear 4 = .ok (.getfield 16, 3) := by decide +kernel
theorem dX2_isCrestClear_7 : decode cX2_isCrestClear 7 = .ok (.invokevirtual 101, 3) := by decide +kernel
theorem dX2_isCrestClear_10 : decode cX2_isCrestClear 10 = .ok (.if_icmp .ge 32, 3) := by decide +kernel
theorem dX2_isCrestClear_13 : decode cX2_isCrestClear 13 = .ok (.aload_n 0, 1) := by decide +kernel
theorem dX2_isCrestClear_14 : decode cX2_isCrestClear 14 = .ok (.getfield 16, 3) := by decide +kernel
theorem dX2_isCrestClear_17 : decode cX2_isCrestClear 17 = .ok (.iload_n 1, 1) := by decide +kernel
theorem dX2_isCrestClear_18 : decode cX2_isCrestClear 18 = .ok (.invokevirtual 208, 3) := by decide +kernel
theorem dX2_isCrestClear_21 : decode cX2_isCrestClear 21 = .ok (.checkcast 110, 3) := by decide +kernel
theorem dX2_isCrestClear_24 : decode cX2_isCrestClear 24 = .ok (.invokevirtual 225, 3) := by decide +kernel
theorem dX2_isCrestClear_27 : decode cX2_isCrestClear 27 = .ok (.ldc2_w 229, 3) := by decide +kernel
theorem dX2_isCrestClear_30 : decode cX2_isCrestClear 30 = .ok (.dcmp .g, 1) := by decide +kernel
theorem dX2_isCrestClear_31 : decode cX2_isCrestClear 31 = .ok (.ifCond .ge 5, 3) := by decide +kernel
theorem dX2_isCrestClear_34 : decode cX2_isCrestClear 34 = .ok (.iconst 0, 1) := by decide +kernel
theorem dX2_isCrestClear_35 : decode cX2_isCrestClear 35 = .ok (.ireturn, 1) := by decide +kernel
theorem dX2_isCrestClear_36 : decode cX2_isCrestClear 36 = .ok (.iinc 1 1, 3) := by decide +kernel
theorem dX2_isCrestClear_39 : decode cX2_isCrestClear 39 = .ok (.goto (-37), 3) := by decide +kernel
theorem dX2_isCrestClear_42 : decode cX2_isCrestClear 42 = .ok (.iconst 1, 1) := by decide +kernel
theorem dX2_isCrestClear_43 : decode cX2_isCrestClear 43 = .ok (.ireturn, 1) := by decide +kernel
theorem dJ9_floorMod_7cf53_0 : decode cJ9_floorMod_7cf53 0 = .ok (.iload_n 0, 1) := by decide +kernel
theorem dJ9_floorMod_7cf53_1 : decode cJ9_floorMod_7cf53 1 = .ok (.iload_n 1, 1) := by decide +kernel
theorem dJ9_floorMod_7cf53_2 : decode cJ9_floorMod_7cf53 2 = .ok (.irem, 1) := by decide +kernel
theorem dJ9_floorMod_7cf53_3 : decode cJ9_floorMod_7cf53 3 = .ok (.istore_n 2, 1) := by decide +kernel
theorem dJ9_floorMod_7cf53_4 : decode cJ9_floorMod_7cf53 4 = .ok (.iload_n 0, 1) := by decide +kernel
theorem dJ9_floorMod_7cf53_5 : decode cJ9_floorMod_7cf53 5 = .ok (.iload_n 1, 1) := by decide +kernel
theorem dJ9_floorMod_7cf53_6 : decode cJ9_floorMod_7cf53 6 = .ok (.ixor, 1) := by decide +kernel
theorem dJ9_floorMod_7cf53_7 : decode cJ9_floorMod_7cf53 7 = .ok (.ifCond .ge 11, 3) := by decide +kernel
theorem dJ9_floorMod_7cf53_10 : decode cJ9_floorMod_7cf53 10 = .ok (.iload_n 2, 1) := by decide +kernel
theorem dJ9_floorMod_7cf53_11 : decode cJ9_floorMod_7cf53 11 = .ok (.ifCond .eq 7, 3) := by decide +kernel
theorem dJ9_floorMod_7cf53_14 : decode cJ9_floorMod_7cf53 14 = .ok (.iload_n 2, 1) := by decide +kernel
theorem dJ9_floorMod_7cf53_15 : decode cJ9_floorMod_7cf53 15 = .ok (.iload_n 1, 1) := by decide +kernel
theorem dJ9_floorMod_7cf53_16 : decode cJ9_floorMod_7cf53 16 = .ok (.iadd, 1) := by decide +kernel
theorem dJ9_floorMod_7cf53_17 : decode cJ9_floorMod_7cf53 17 = .ok (.ireturn, 1) := by decide +kernel
theorem dJ9_floorMod_7cf53_18 : decode cJ9_floorMod_7cf53 18 = .ok (.iload_n 2, 1) := by decide +kernel
theorem dJ9_floorMod_7cf53_19 : decode cJ9_floorMod_7cf53 19 = .ok (.ireturn, 1) := by decide +kernel
theorem dJ9_max_7cf53_0 : decode cJ9_max_7cf53 0 = .ok (.iload_n 0, 1) := by decide +kernel
theorem dJ9_max_7cf53_1 : decode cJ9_max_7cf53 1 = .ok (.iload_n 1, 1) := by decide +kernel
theorem dJ9_max_7cf53_2 : decode cJ9_max_7cf53 2 = .ok (.if_icmp .lt 7, 3) := by decide +kernel
theorem dJ9_max_7cf53_5 : decode cJ9_max_7cf53 5 = .ok (.iload_n 0, 1) := by decide +kernel
theorem dJ9_max_7cf53_6 : decode cJ9_max_7cf53 6 = .ok (.goto 4, 3) := by decide +kernel
theorem dJ9_max_7cf53_9 : decode cJ9_max_7cf53 9 = .ok (.iload_n 1, 1) := by decide +kernel
theorem dJ9_max_7cf53_10 : decode cJ9_max_7cf53 10 = .ok (.ireturn, 1) := by decide +kernel
theorem dJ9_min_7cf53_0 : decode cJ9_min_7cf53 0 = .ok (.iload_n 0, 1) := by decide +kernel
theorem dJ9_min_7cf53_1 : decode cJ9_min_7cf53 1 = .ok (.iload_n 1, 1) := by decide +kernel
theorem dJ9_min_7cf53_2 : decode cJ9_min_7cf53 2 = .ok (.if_icmp .gt 7, 3) := by decide +kernel
theorem dJ9_min_7cf53_5 : decode cJ9_min_7cf53 5 = .ok (.iload_n 0, 1) := by decide +kernel
theorem dJ9_min_7cf53_6 : decode cJ9_min_7cf53 6 = .ok (.goto 4, 3) := by decide +kernel
theorem dJ9_min_7cf53_9 : decode cJ9_min_7cf53 9 = .ok (.iload_n 1, 1) := by decide +kernel
theorem dJ9_min_7cf53_10 : decode cJ9_min_7cf53 10 = .ok (.ireturn, 1) := by decide +kernel
theorem dJxa1e45_init_da8c8_0 : decode cJxa1e45_init_da8c8 0 = .ok (.aload_n 0, 1) := by decide +kernel
theorem dJxa1e45_init_da8c8_1 : decode cJxa1e45_init_da8c8 1 = .ok (.invokespecial 1, 3) := by decide +kernel
theorem dJxa1e45_init_da8c8_4 : decode cJxa1e45_init_da8c8 4 = .ok (.return_, 1) := by decide +kernel
theorem dJxc12de_init_da8c8_0 : decode cJxc12de_init_da8c8 0 = .ok (.aload_n 0, 1) := by decide +kernel
theorem dJxc12de_init_da8c8_1 : decode cJxc12de_init_da8c8 1 = .ok (.invokespecial 1, 3) := by decide +kernel
theorem dJxc12de_init_da8c8_4 : decode cJxc12de_init_da8c8 4 = .ok (.aload_n 0, 1) := by decide +kernel
theorem dJxc12de_init_da8c8_5 : decode cJxc12de_init_da8c8 5 = .ok (.iconst 0, 1) := by decide +kernel
theorem dJxc12de_init_da8c8_6 : decode cJxc12de_init_da8c8 6 = .ok (.putfield 7, 3) := by decide +kernel
theorem dJxc12de_init_da8c8_9 : decode cJxc12de_init_da8c8 9 = .ok (.return_, 1) := by decide +kernel
theorem dJx4a65c_init_da8c8_0 : decode cJx4a65c_init_da8c8 0 = .ok (.aload_n 0, 1) := by decide +kernel
theorem dJx4a65c_init_da8c8_1 : decode cJx4a65c_init_da8c8 1 = .ok (.invokespecial 1, 3) := by decide +kernel
theorem dJx4a65c_init_da8c8_4 : decode cJx4a65c_init_da8c8 4 = .ok (.aload_n 0, 1) := by decide +kernel
theorem dJx4a65c_init_da8c8_5 : decode cJx4a65c_init_da8c8 5 = .ok (.getstatic 39, 3) := by decide +kernel
theorem dJx4a65c_init_da8c8_8 : decode cJx4a65c_init_da8c8 8 = .ok (.putfield 9, 3) := by decide +kernel
theorem dJx4a65c_init_da8c8_11 : decode cJx4a65c_init_da8c8 11 = .ok (.return_, 1) := by decide +kernel
theorem dJx4a65c_grow_92f84_0 : decode cJx4a65c_grow_92f84 0 = .ok (.aload_n 0, 1) := by decide +kernel
theorem dJx4a65c_grow_92f84_1 : decode cJx4a65c_grow_92f84 1 = .ok (.getfield 9, 3) := by decide +kernel
theorem dJx4a65c_grow_92f84_4 : decode cJx4a65c_grow_92f84 4 = .ok (.arraylength, 1) := by decide +kernel
theorem dJx4a65c_grow_92f84_5 : decode cJx4a65c_grow_92f84 5 = .ok (.istore_n 2, 1) := by decide +kernel
theorem dJx4a65c_grow_92f84_6 : decode cJx4a65c_grow_92f84 6 = .ok (.iload_n 2, 1) := by decide +kernel
theorem dJx4a65c_grow_92f84_7 : decode cJx4a65c_grow_92f84 7 = .ok (.ifCond .gt 13, 3) := by decide +kernel
theorem dJx4a65c_grow_92f84_10 : decode cJx4a65c_grow_92f84 10 = .ok (.aload_n 0, 1) := by decide +kernel
theorem dJx4a65c_grow_92f84_11 : decode cJx4a65c_grow_92f84 11 = .ok (.getfield 9, 3) := by decide +kernel
theorem dJx4a65c_grow_92f84_14 : decode cJx4a65c_grow_92f84 14 = .ok (.getstatic 39, 3) := by decide +kernel
theorem dJx4a65c_grow_92f84_17 : decode cJx4a65c_grow_92f84 17 = .ok (.if_acmp .eq 28, 3) := by decide +kernel
theorem dJx4a65c_grow_92f84_20 : decode cJx4a65c_grow_92f84 20 = .ok (.iload_n 2, 1) := by decide +kernel
theorem dJx4a65c_grow_92f84_21 : decode cJx4a65c_grow_92f84 21 = .ok (.iload_n 1, 1) := by decide +kernel
theorem dJx4a65c_grow_92f84_22 : decode cJx4a65c_grow_92f84 22 = .ok (.iload_n 2, 1) := by decide +kernel
theorem dJx4a65c_grow_92f84_23 : decode cJx4a65c_grow_92f84 23 = .ok (.isub, 1) := by decide +kernel
theorem dJx4a65c_grow_92f84_24 : decode cJx4a65c_grow_92f84 24 = .ok (.iload_n 2, 1) := by decide +kernel
theorem dJx4a65c_grow_92f84_25 : decode cJx4a65c_grow_92f84 25 = .ok (.iconst 1, 1) := by decide +kernel
theorem dJx4a65c_grow_92f84_26 : decode cJx4a65c_grow_92f84 26 = .ok (.ishr, 1) := by decide +kernel
theorem dJx4a65c_grow_92f84_27 : decode cJx4a65c_grow_92f84 27 = .ok (.invokestatic 73, 3) := by decide +kernel
theorem dJx4a65c_grow_92f84_30 : decode cJx4a65c_grow_92f84 30 = .ok (.istore_n 3, 1) := by decide +kernel
theorem dJx4a65c_grow_92f84_31 : decode cJx4a65c_grow_92f84 31 = .ok (.aload_n 0, 1) := by decide +kernel
theorem dJx4a65c_grow_92f84_32 : decode cJx4a65c_grow_92f84 32 = .ok (.aload_n 0, 1) := by decide +kernel
theorem dJx4a65c_grow_92f84_33 : decode cJx4a65c_grow_92f84 33 = .ok (.getfield 9, 3) := by decide +kernel
theorem dJx4a65c_grow_92f84_36 : decode cJx4a65c_grow_92f84 36 = .ok (.iload_n 3, 1) := by decide +kernel
theorem dJx4a65c_grow_92f84_37 : decode cJx4a65c_grow_92f84 37 = .ok (.invokestatic 66, 3) := by decide +kernel
theorem dJx4a65c_grow_92f84_40 : decode cJx4a65c_grow_92f84 40 = .ok (.dup_x1, 1) := by decide +kernel
theorem dJx4a65c_grow_92f84_41 : decode cJx4a65c_grow_92f84 41 = .ok (.putfield 9, 3) := by decide +kernel
theorem dJx4a65c_grow_92f84_44 : decode cJx4a65c_grow_92f84 44 = .ok (.areturn, 1) := by decide +kernel
theorem dJx4a65c_grow_92f84_45 : decode cJx4a65c_grow_92f84 45 = .ok (.aload_n 0, 1) := by decide +kernel
theorem dJx4a65c_grow_92f84_46 : decode cJx4a65c_grow_92f84 46 = .ok (.bipush 10, 2) := by decide +kernel
theorem dJx4a65c_grow_92f84_48 : decode cJx4a65c_grow_92f84 48 = .ok (.iload_n 1, 1) := by decide +kernel
theorem dJx4a65c_grow_92f84_49 : decode cJx4a65c_grow_92f84 49 = .ok (.invokestatic 79, 3) := by decide +kernel
theorem dJx4a65c_grow_92f84_52 : decode cJx4a65c_grow_92f84 52 = .ok (.anewarray 7, 3) := by decide +kernel
theorem dJx4a65c_grow_92f84_55 : decode cJx4a65c_grow_92f84 55 = .ok (.dup_x1, 1) := by decide +kernel
theorem dJx4a65c_grow_92f84_56 : decode cJx4a65c_grow_92f84 56 = .ok (.putfield 9, 3) := by decide +kernel
theorem dJx4a65c_grow_92f84_59 : decode cJx4a65c_grow_92f84 59 = .ok (.areturn, 1) := by decide +kernel
theorem dJx4a65c_grow_d5877_0 : decode cJx4a65c_grow_d5877 0 = .ok (.aload_n 0, 1) := by decide +kernel
theorem dJx4a65c_grow_d5877_1 : decode cJx4a65c_grow_d5877 1 = .ok (.aload_n 0, 1) := by decide +kernel
theorem dJx4a65c_grow_d5877_2 : decode cJx4a65c_grow_d5877 2 = .ok (.getfield 48, 3) := by decide +kernel
theorem dJx4a65c_grow_d5877_5 : decode cJx4a65c_grow_d5877 5 = .ok (.iconst 1, 1) := by decide +kernel
theorem dJx4a65c_grow_d5877_6 : decode cJx4a65c_grow_d5877 6 = .ok (.iadd, 1) := by decide +kernel
theorem dJx4a65c_grow_d5877_7 : decode cJx4a65c_grow_d5877 7 = .ok (.invokevirtual 69, 3) := by decide +kernel
theorem dJx4a65c_grow_d5877_10 : decode cJx4a65c_grow_d5877 10 = .ok (.areturn, 1) := by decide +kernel
theorem dJx4a65c_size_8abf5_0 : decode cJx4a65c_size_8abf5 0 = .ok (.aload_n 0, 1) := by decide +kernel
theorem dJx4a65c_size_8abf5_1 : decode cJx4a65c_size_8abf5 1 = .ok (.getfield 48, 3) := by decide +kernel
theorem dJx4a65c_size_8abf5_4 : decode cJx4a65c_size_8abf5 4 = .ok (.ireturn, 1) := by decide +kernel
theorem dJx4a65c_elementData_915e3_0 : decode cJx4a65c_elementData_915e3 0 = .ok (.aload_n 0, 1) := by decide +kernel
theorem dJx4a65c_elementData_915e3_1 : decode cJx4a65c_elementData_915e3 1 = .ok (.getfield 9, 3) := by decide +kernel
theorem dJx4a65c_elementData_915e3_4 : decode cJx4a65c_elementData_915e3 4 = .ok (.iload_n 1, 1) := by decide +kernel
theorem dJx4a65c_elementData_915e3_5 : decode cJx4a65c_elementData_915e3 5 = .ok (.aaload, 1) := by decide +kernel
theorem dJx4a65c_elementData_915e3_6 : decode cJx4a65c_elementData_915e3 6 = .ok (.areturn, 1) := by decide +kernel
theorem dJx4a65c_get_915e3_0 : decode cJx4a65c_get_915e3 0 = .ok (.iload_n 1, 1) := by decide +kernel
theorem dJx4a65c_get_915e3_1 : decode cJx4a65c_get_915e3 1 = .ok (.aload_n 0, 1) := by decide +kernel
theorem dJx4a65c_get_915e3_2 : decode cJx4a65c_get_915e3 2 = .ok (.getfield 48, 3) := by decide +kernel
theorem dJx4a65c_get_915e3_5 : decode cJx4a65c_get_915e3 5 = .ok (.invokestatic 118, 3) := by decide +kernel
theorem dJx4a65c_get_915e3_8 : decode cJx4a65c_get_915e3 8 = .ok (.pop, 1) := by decide +kernel
theorem dJx4a65c_get_915e3_9 : decode cJx4a65c_get_915e3 9 = .ok (.aload_n 0, 1) := by decide +kernel
theorem dJx4a65c_get_915e3_10 : decode cJx4a65c_get_915e3 10 = .ok (.iload_n 1, 1) := by decide +kernel
theorem dJx4a65c_get_915e3_11 : decode cJx4a65c_get_915e3 11 = .ok (.invokevirtual 123, 3) := by decide +kernel
theorem dJx4a65c_get_915e3_14 : decode cJx4a65c_get_915e3 14 = .ok (.areturn, 1) := by decide +kernel
theorem dJx4a65c_add_72be8_0 : decode cJx4a65c_add_72be8 0 = .ok (.iload_n 3, 1) := by decide +kernel
theorem dJx4a65c_add_72be8_1 : decode cJx4a65c_add_72be8 1 = .ok (.aload_n 2, 1) := by decide +kernel
theorem dJx4a65c_add_72be8_2 : decode cJx4a65c_add_72be8 2 = .ok (.arraylength, 1) := by decide +kernel
theorem dJx4a65c_add_72be8_3 : decode cJx4a65c_add_72be8 3 = .ok (.if_icmp .ne 8, 3) := by decide +kernel
theorem dJx4a65c_add_72be8_6 : decode cJx4a65c_add_72be8 6 = .ok (.aload_n 0, 1) := by decide +kernel
theorem dJx4a65c_add_72be8_7 : decode cJx4a65c_add_72be8 7 = .ok (.invokevirtual 129, 3) := by decide +kernel
theorem dJx4a65c_add_72be8_10 : decode cJx4a65c_add_72be8 10 = .ok (.astore_n 2, 1) := by decide +kernel
theorem dJx4a65c_add_72be8_11 : decode cJx4a65c_add_72be8 11 = .ok (.aload_n 2, 1) := by decide +kernel
theorem dJx4a65c_add_72be8_12 : decode cJx4a65c_add_72be8 12 = .ok (.iload_n 3, 1) := by decide +kernel
theorem dJx4a65c_add_72be8_13 : decode cJx4a65c_add_72be8 13 = .ok (.aload_n 1, 1) := by decide +kernel
theorem dJx4a65c_add_72be8_14 : decode cJx4a65c_add_72be8 14 = .ok (.aastore, 1) := by decide +kernel
theorem dJx4a65c_add_72be8_15 : decode cJx4a65c_add_72be8 15 = .ok (.aload_n 0, 1) := by decide +kernel
theorem dJx4a65c_add_72be8_16 : decode cJx4a65c_add_72be8 16 = .ok (.iload_n 3, 1) := by decide +kernel
theorem dJx4a65c_add_72be8_17 : decode cJx4a65c_add_72be8 17 = .ok (.iconst 1, 1) := by decide +kernel
theorem dJx4a65c_add_72be8_18 : decode cJx4a65c_add_72be8 18 = .ok (.iadd, 1) := by decide +kernel
theorem dJx4a65c_add_72be8_19 : decode cJx4a65c_add_72be8 19 = .ok (.putfield 48, 3) := by decide +kernel
theorem dJx4a65c_add_72be8_22 : decode cJx4a65c_add_72be8 22 = .ok (.return_, 1) := by decide +kernel
theorem dJx4a65c_add_9ea2d_0 : decode cJx4a65c_add_9ea2d 0 = .ok (.aload_n 0, 1) := by decide +kernel
theorem dJx4a65c_add_9ea2d_1 : decode cJx4a65c_add_9ea2d 1 = .ok (.dup, 1) := by decide +kernel
theorem dJx4a65c_add_9ea2d_2 : decode cJx4a65c_add_9ea2d 2 = .ok (.getfield 63, 3) := by decide +kernel
theorem dJx4a65c_add_9ea2d_5 : decode cJx4a65c_add_9ea2d 5 = .ok (.iconst 1, 1) := by decide +kernel
theorem dJx4a65c_add_9ea2d_6 : decode cJx4a65c_add_9ea2d 6 = .ok (.iadd, 1) := by decide +kernel
theorem dJx4a65c_add_9ea2d_7 : decode cJx4a65c_add_9ea2d 7 = .ok (.putfield 63, 3) := by decide +kernel
theorem dJx4a65c_add_9ea2d_10 : decode cJx4a65c_add_9ea2d 10 = .ok (.aload_n 0, 1) := by decide +kernel
theorem dJx4a65c_add_9ea2d_11 : decode cJx4a65c_add_9ea2d 11 = .ok (.aload_n 1, 1) := by decide +kernel
theorem dJx4a65c_add_9ea2d_12 : decode cJx4a65c_add_9ea2d 12 = .ok (.aload_n 0, 1) := by decide +kernel
theorem dJx4a65c_add_9ea2d_13 : decode cJx4a65c_add_9ea2d 13 = .ok (.getfield 9, 3) := by decide +kernel
theorem dJx4a65c_add_9ea2d_16 : decode cJx4a65c_add_9ea2d 16 = .ok (.aload_n 0, 1) := by decide +kernel
theorem dJx4a65c_add_9ea2d_17 : decode cJx4a65c_add_9ea2d 17 = .ok (.getfield 48, 3) := by decide +kernel
theorem dJx4a65c_add_9ea2d_20 : decode cJx4a65c_add_9ea2d 20 = .ok (.invokevirtual 131, 3) := by decide +kernel
theorem dJx4a65c_add_9ea2d_23 : decode cJx4a65c_add_9ea2d 23 = .ok (.iconst 1, 1) := by decide +kernel
theorem dJx4a65c_add_9ea2d_24 : decode cJx4a65c_add_9ea2d 24 = .ok (.ireturn, 1) := by decide +kernel
theorem dJx4a65c_remove_915e3_0 : decode cJx4a65c_remove_915e3 0 = .ok (.iload_n 1, 1) := by decide +kernel
theorem dJx4a65c_remove_915e3_1 : decode cJx4a65c_remove_915e3 1 = .ok (.aload_n 0, 1) := by decide +kernel
theorem dJx4a65c_remove_915e3_2 : decode cJx4a65c_remove_915e3 2 = .ok (.getfield 48, 3) := by decide +kernel
theorem dJx4a65c_remove_915e3_5 : decode cJx4a65c_remove_915e3 5 = .ok (.invokestatic 118, 3) := by decide +kernel
theorem dJx4a65c_remove_915e3_8 : decode cJx4a65c_remove_915e3 8 = .ok (.pop, 1) := by decide +kernel
theorem dJx4a65c_remove_915e3_9 : decode cJx4a65c_remove_915e3 9 = .ok (.aload_n 0, 1) := by decide +kernel
theorem dJx4a65c_remove_915e3_10 : decode cJx4a65c_remove_915e3 10 = .ok (.getfield 9, 3) := by decide +kernel
theorem dJx4a65c_remove_915e3_13 : decode cJx4a65c_remove_915e3 13 = .ok (.astore_n 2, 1) := by decide +kernel
theorem dJx4a65c_remove_915e3_14 : decode cJx4a65c_remove_915e3 14 = .ok (.aload_n 2, 1) := by decide +kernel
theorem dJx4a65c_remove_915e3_15 : decode cJx4a65c_remove_915e3 15 = .ok (.iload_n 1, 1) := by decide +kernel
theorem dJx4a65c_remove_915e3_16 : decode cJx4a65c_remove_915e3 16 = .ok (.aaload, 1) := by decide +kernel
theorem dJx4a65c_remove_915e3_17 : decode cJx4a65c_remove_915e3 17 = .ok (.astore_n 3, 1) := by decide +kernel
theorem dJx4a65c_remove_915e3_18 : decode cJx4a65c_remove_915e3 18 = .ok (.aload_n 0, 1) := by decide +kernel
theorem dJx4a65c_remove_915e3_19 : decode cJx4a65c_remove_915e3 19 = .ok (.aload_n 2, 1) := by decide +kernel
theorem dJx4a65c_remove_915e3_20 : decode cJx4a65c_remove_915e3 20 = .ok (.iload_n 1, 1) := by decide +kernel
theorem dJx4a65c_remove_915e3_21 : decode cJx4a65c_remove_915e3 21 = .ok (.invokevirtual 144, 3) := by decide +kernel
theorem dJx4a65c_remove_915e3_24 : decode cJx4a65c_remove_915e3 24 = .ok (.aload_n 3, 1) := by decide +kernel
theorem dJx4a65c_remove_915e3_25 : decode cJx4a65c_remove_915e3 25 = .ok (.areturn, 1) := by decide +kernel
theorem dJx4a65c_fastRemove_b59b0_0 : decode cJx4a65c_fastRemove_b59b0 0 = .ok (.aload_n 0, 1) := by decide +kernel
theorem dJx4a65c_fastRemove_b59b0_1 : decode cJx4a65c_fastRemove_b59b0 1 = .ok (.dup, 1) := by decide +kernel
theorem dJx4a65c_fastRemove_b59b0_2 : decode cJx4a65c_fastRemove_b59b0 2 = .ok (.getfield 63, 3) := by decide +kernel
theorem dJx4a65c_fastRemove_b59b0_5 : decode cJx4a65c_fastRemove_b59b0 5 = .ok (.iconst 1, 1) := by decide +kernel
theorem dJx4a65c_fastRemove_b59b0_6 : decode cJx4a65c_fastRemove_b59b0 6 = .ok (.iadd, 1) := by decide +kernel
theorem dJx4a65c_fastRemove_b59b0_7 : decode cJx4a65c_fastRemove_b59b0 7 = .ok (.putfield 63, 3) := by decide +kernel
theorem dJx4a65c_fastRemove_b59b0_10 : decode cJx4a65c_fastRemove_b59b0 10 = .ok (.aload_n 0, 1) := by decide +kernel
theorem dJx4a65c_fastRemove_b59b0_11 : decode cJx4a65c_fastRemove_b59b0 11 = .ok (.getfield 48, 3) := by decide +kernel
theorem dJx4a65c_fastRemove_b59b0_14 : decode cJx4a65c_fastRemove_b59b0 14 = .ok (.iconst 1, 1) := by decide +kernel
theorem dJx4a65c_fastRemove_b59b0_15 : decode cJx4a65c_fastRemove_b59b0 15 = .ok (.isub, 1) := by decide +kernel
theorem dJx4a65c_fastRemove_b59b0_16 : decode cJx4a65c_fastRemove_b59b0 16 = .ok (.dup, 1) := by decide +kernel
theorem dJx4a65c_fastRemove_b59b0_17 : decode cJx4a65c_fastRemove_b59b0 17 = .ok (.istore_n 3, 1) := by decide +kernel
theorem dJx4a65c_fastRemove_b59b0_18 : decode cJx4a65c_fastRemove_b59b0 18 = .ok (.iload_n 2, 1) := by decide +kernel
theorem dJx4a65c_fastRemove_b59b0_19 : decode cJx4a65c_fastRemove_b59b0 19 = .ok (.if_icmp .le 15, 3) := by decide +kernel
theorem dJx4a65c_fastRemove_b59b0_22 : decode cJx4a65c_fastRemove_b59b0 22 = .ok (.aload_n 1, 1) := by decide +kernel
theorem dJx4a65c_fastRemove_b59b0_23 : decode cJx4a65c_fastRemove_b59b0 23 = .ok (.iload_n 2, 1) := by decide +kernel
theorem dJx4a65c_fastRemove_b59b0_24 : decode cJx4a65c_fastRemove_b59b0 24 = .ok (.iconst 1, 1) := by decide +kernel
theorem dJx4a65c_fastRemove_b59b0_25 : decode cJx4a65c_fastRemove_b59b0 25 = .ok (.iadd, 1) := by decide +kernel
theorem dJx4a65c_fastRemove_b59b0_26 : decode cJx4a65c_fastRemove_b59b0 26 = .ok (.aload_n 1, 1) := by decide +kernel
theorem dJx4a65c_fastRemove_b59b0_27 : decode cJx4a65c_fastRemove_b59b0 27 = .ok (.iload_n 2, 1) := by decide +kernel
theorem dJx4a65c_fastRemove_b59b0_28 : decode cJx4a65c_fastRemove_b59b0 28 = .ok (.iload_n 3, 1) := by decide +kernel
theorem dJx4a65c_fastRemove_b59b0_29 : decode cJx4a65c_fastRemove_b59b0 29 = .ok (.iload_n 2, 1) := by decide +kernel
theorem dJx4a65c_fastRemove_b59b0_30 : decode cJx4a65c_fastRemove_b59b0 30 = .ok (.isub, 1) := by decide +kernel
theorem dJx4a65c_fastRemove_b59b0_31 : decode cJx4a65c_fastRemove_b59b0 31 = .ok (.invokestatic 112, 3) := by decide +kernel
theorem dJx4a65c_fastRemove_b59b0_34 : decode cJx4a65c_fastRemove_b59b0 34 = .ok (.aload_n 1, 1) := by decide +kernel
theorem dJx4a65c_fastRemove_b59b0_35 : decode cJx4a65c_fastRemove_b59b0 35 = .ok (.aload_n 0, 1) := by decide +kernel
theorem dJx4a65c_fastRemove_b59b0_36 : decode cJx4a65c_fastRemove_b59b0 36 = .ok (.iload_n 3, 1) := by decide +kernel
theorem dJx4a65c_fastRemove_b59b0_37 : decode cJx4a65c_fastRemove_b59b0 37 = .ok (.dup_x1, 1) := by decide +kernel
theorem dJx4a65c_fastRemove_b59b0_38 : decode cJx4a65c_fastRemove_b59b0 38 = .ok (.putfield 48, 3) := by decide +kernel
theorem dJx4a65c_fastRemove_b59b0_41 : decode cJx4a65c_fastRemove_b59b0 41 = .ok (.aconst_null, 1) := by decide +kernel
theorem dJx4a65c_fastRemove_b59b0_42 : decode cJx4a65c_fastRemove_b59b0 42 = .ok (.aastore, 1) := by decide +kernel
theorem dJx4a65c_fastRemove_b59b0_43 : decode cJx4a65c_fastRemove_b59b0 43 = .ok (.return_, 1) := by decide +kernel
theorem dJ7_fill_7f8df_0 : decode cJ7_fill_7f8df 0 = .ok (.iconst 0, 1) := by decide +kernel
theorem dJ7_fill_7f8df_1 : decode cJ7_fill_7f8df 1 = .ok (.istore_n 3, 1) := by decide +kernel
theorem dJ7_fill_7f8df_2 : decode cJ7_fill_7f8df 2 = .ok (.aload_n 0, 1) := by decide +kernel
theorem dJ7_fill_7f8df_3 : decode cJ7_fill_7f8df 3 = .ok (.arraylength, 1) := by decide +kernel
theorem dJ7_fill_7f8df_4 : decode cJ7_fill_7f8df 4 = .ok (.istore 4, 2) := by decide +kernel
theorem dJ7_fill_7f8df_6 : decode cJ7_fill_7f8df 6 = .ok (.iload_n 3, 1) := by decide +kernel
theorem dJ7_fill_7f8df_7 : decode cJ7_fill_7f8df 7 = .ok (.iload 4, 2) := by decide +kernel
theorem dJ7_fill_7f8df_9 : decode cJ7_fill_7f8df 9 = .ok (.if_icmp .ge 13, 3) := by decide +kernel
theorem dJ7_fill_7f8df_12 : decode cJ7_fill_7f8df 12 = .ok (.aload_n 0, 1) := by decide +kernel
theorem dJ7_fill_7f8df_13 : decode cJ7_fill_7f8df 13 = .ok (.iload_n 3, 1) := by decide +kernel
theorem dJ7_fill_7f8df_14 : decode cJ7_fill_7f8df 14 = .ok (.dload_n 1, 1) := by decide +kernel
theorem dJ7_fill_7f8df_15 : decode cJ7_fill_7f8df 15 = .ok (.dastore, 1) := by decide +kernel
theorem dJ7_fill_7f8df_16 : decode cJ7_fill_7f8df 16 = .ok (.iinc 3 1, 3) := by decide +kernel
theorem dJ7_fill_7f8df_19 : decode cJ7_fill_7f8df 19 = .ok (.goto (-13), 3) := by decide +kernel
theorem dJ7_fill_7f8df_22 : decode cJ7_fill_7f8df 22 = .ok (.return_, 1) := by decide +kernel
theorem dJ7_copyOf_1904c_0 : decode cJ7_copyOf_1904c 0 = .ok (.aload_n 0, 1) := by decide +kernel
theorem dJ7_copyOf_1904c_1 : decode cJ7_copyOf_1904c 1 = .ok (.iload_n 1, 1) := by decide +kernel
theorem dJ7_copyOf_1904c_2 : decode cJ7_copyOf_1904c 2 = .ok (.aload_n 0, 1) := by decide +kernel
theorem dJ7_copyOf_1904c_3 : decode cJ7_copyOf_1904c 3 = .ok (.invokevirtual 86, 3) := by decide +kernel
theorem dJ7_copyOf_1904c_6 : decode cJ7_copyOf_1904c 6 = .ok (.invokestatic 300, 3) := by decide +kernel
theorem dJ7_copyOf_1904c_9 : decode cJ7_copyOf_1904c 9 = .ok (.areturn, 1) := by decide +kernel
theorem dJ7_copyOf_6403c_0 : decode cJ7_copyOf_6403c 0 = .ok (.aload_n 2, 1) := by decide +kernel
theorem dJ7_copyOf_6403c_1 : decode cJ7_copyOf_6403c 1 = .ok (.ldc 110, 2) := by decide +kernel
theorem dJ7_copyOf_6403c_3 : decode cJ7_copyOf_6403c 3 = .ok (.if_acmp .ne 10, 3) := by decide +kernel
theorem dJ7_copyOf_6403c_6 : decode cJ7_copyOf_6403c 6 = .ok (.iload_n 1, 1) := by decide +kernel
theorem dJ7_copyOf_6403c_7 : decode cJ7_copyOf_6403c 7 = .ok (.anewarray 2, 3) := by decide +kernel
theorem dJ7_copyOf_6403c_10 : decode cJ7_copyOf_6403c 10 = .ok (.goto 14, 3) := by decide +kernel
theorem dJ7_copyOf_6403c_13 : decode cJ7_copyOf_6403c 13 = .ok (.aload_n 2, 1) := by decide +kernel
theorem dJ7_copyOf_6403c_14 : decode cJ7_copyOf_6403c 14 = .ok (.invokevirtual 90, 3) := by decide +kernel
theorem dJ7_copyOf_6403c_17 : decode cJ7_copyOf_6403c 17 = .ok (.iload_n 1, 1) := by decide +kernel
theorem dJ7_copyOf_6403c_18 : decode cJ7_copyOf_6403c 18 = .ok (.invokestatic 95, 3) := by decide +kernel
theorem dJ7_copyOf_6403c_21 : decode cJ7_copyOf_6403c 21 = .ok (.checkcast 110, 3) := by decide +kernel
theorem dJ7_copyOf_6403c_24 : decode cJ7_copyOf_6403c 24 = .ok (.astore_n 3, 1) := by decide +kernel
theorem dJ7_copyOf_6403c_25 : decode cJ7_copyOf_6403c 25 = .ok (.aload_n 0, 1) := by decide +kernel
theorem dJ7_copyOf_6403c_26 : decode cJ7_copyOf_6403c 26 = .ok (.iconst 0, 1) := by decide +kernel
theorem dJ7_copyOf_6403c_27 : decode cJ7_copyOf_6403c 27 = .ok (.aload_n 3, 1) := by decide +kernel
theorem dJ7_copyOf_6403c_28 : decode cJ7_copyOf_6403c 28 = .ok (.iconst 0, 1) := by decide +kernel
theorem dJ7_copyOf_6403c_29 : decode cJ7_copyOf_6403c 29 = .ok (.aload_n 0, 1) := by decide +kernel
theorem dJ7_copyOf_6403c_30 : decode cJ7_copyOf_6403c 30 = .ok (.arraylength, 1) := by decide +kernel
theorem dJ7_copyOf_6403c_31 : decode cJ7_copyOf_6403c 31 = .ok (.iload_n 1, 1) := by decide +kernel
theorem dJ7_copyOf_6403c_32 : decode cJ7_copyOf_6403c 32 = .ok (.invokestatic 304, 3) := by decide +kernel
theorem dJ7_copyOf_6403c_35 : decode cJ7_copyOf_6403c 35 = .ok (.invokestatic 150, 3) := by decide +kernel
theorem dJ7_copyOf_6403c_38 : decode cJ7_copyOf_6403c 38 = .ok (.aload_n 3, 1) := by decide +kernel
theorem dJ7_copyOf_6403c_39 : decode cJ7_copyOf_6403c 39 = .ok (.areturn, 1) := by decide +kernel
theorem dJ15_checkIndex_7cf53_0 : decode cJ15_checkIndex_7cf53 0 = .ok (.iload_n 0, 1) := by decide +kernel
theorem dJ15_checkIndex_7cf53_1 : decode cJ15_checkIndex_7cf53 1 = .ok (.iload_n 1, 1) := by decide +kernel
theorem dJ15_checkIndex_7cf53_2 : decode cJ15_checkIndex_7cf53 2 = .ok (.aconst_null, 1) := by decide +kernel
theorem dJ15_checkIndex_7cf53_3 : decode cJ15_checkIndex_7cf53 3 = .ok (.invokestatic 105, 3) := by decide +kernel
theorem dJ15_checkIndex_7cf53_6 : decode cJ15_checkIndex_7cf53 6 = .ok (.ireturn, 1) := by decide +kernel
theorem dJ8_newLength_cabcc_0 : decode cJ8_newLength_cabcc 0 = .ok (.iload_n 0, 1) := by decide +kernel
theorem dJ8_newLength_cabcc_1 : decode cJ8_newLength_cabcc 1 = .ok (.iload_n 1, 1) := by decide +kernel
theorem dJ8_newLength_cabcc_2 : decode cJ8_newLength_cabcc 2 = .ok (.iload_n 2, 1) := by decide +kernel
theorem dJ8_newLength_cabcc_3 : decode cJ8_newLength_cabcc 3 = .ok (.invokestatic 194, 3) := by decide +kernel
theorem dJ8_newLength_cabcc_6 : decode cJ8_newLength_cabcc 6 = .ok (.iadd, 1) := by decide +kernel
theorem dJ8_newLength_cabcc_7 : decode cJ8_newLength_cabcc 7 = .ok (.istore_n 3, 1) := by decide +kernel
theorem dJ8_newLength_cabcc_8 : decode cJ8_newLength_cabcc 8 = .ok (.iconst 0, 1) := by decide +kernel
theorem dJ8_newLength_cabcc_9 : decode cJ8_newLength_cabcc 9 = .ok (.iload_n 3, 1) := by decide +kernel
theorem dJ8_newLength_cabcc_10 : decode cJ8_newLength_cabcc 10 = .ok (.if_icmp .ge 11, 3) := by decide +kernel
theorem dJ8_newLength_cabcc_13 : decode cJ8_newLength_cabcc 13 = .ok (.iload_n 3, 1) := by decide +kernel
theorem dJ8_newLength_cabcc_14 : decode cJ8_newLength_cabcc 14 = .ok (.ldc 200, 2) := by decide +kernel
theorem dJ8_newLength_cabcc_16 : decode cJ8_newLength_cabcc 16 = .ok (.if_icmp .gt 5, 3) := by decide +kernel
theorem dJ8_newLength_cabcc_19 : decode cJ8_newLength_cabcc 19 = .ok (.iload_n 3, 1) := by decide +kernel
theorem dJ8_newLength_cabcc_20 : decode cJ8_newLength_cabcc 20 = .ok (.ireturn, 1) := by decide +kernel
theorem dJ8_newLength_cabcc_21 : decode cJ8_newLength_cabcc 21 = .ok (.iload_n 0, 1) := by decide +kernel
theorem dJ8_newLength_cabcc_22 : decode cJ8_newLength_cabcc 22 = .ok (.iload_n 1, 1) := by decide +kernel
theorem dJ8_newLength_cabcc_23 : decode cJ8_newLength_cabcc 23 = .ok (.invokestatic 201, 3) := by decide +kernel
theorem dJ8_newLength_cabcc_26 : decode cJ8_newLength_cabcc 26 = .ok (.ireturn, 1) := by decide +kernel
theorem dJ8_hugeLength_7cf53_0 : decode cJ8_hugeLength_7cf53 0 = .ok (.iload_n 0, 1) := by decide +kernel
theorem dJ8_hugeLength_7cf53_1 : decode cJ8_hugeLength_7cf53 1 = .ok (.iload_n 1, 1) := by decide +kernel
theorem dJ8_hugeLength_7cf53_2 : decode cJ8_hugeLength_7cf53 2 = .ok (.iadd, 1) := by decide +kernel
theorem dJ8_hugeLength_7cf53_3 : decode cJ8_hugeLength_7cf53 3 = .ok (.istore_n 2, 1) := by decide +kernel
theorem dJ8_hugeLength_7cf53_4 : decode cJ8_hugeLength_7cf53 4 = .ok (.iload_n 2, 1) := by decide +kernel
theorem dJ8_hugeLength_7cf53_5 : decode cJ8_hugeLength_7cf53 5 = .ok (.ifCond .ge 44, 3) := by decide +kernel
theorem dJ8_hugeLength_7cf53_8 : decode cJ8_hugeLength_7cf53 8 = .ok (.new 204, 3) := by decide +kernel
theorem dJ8_hugeLength_7cf53_11 : decode cJ8_hugeLength_7cf53 11 = .ok (.dup, 1) := by decide +kernel
theorem dJ8_hugeLength_7cf53_12 : decode cJ8_hugeLength_7cf53 12 = .ok (.new 89, 3) := by decide +kernel
theorem dJ8_hugeLength_7cf53_15 : decode cJ8_hugeLength_7cf53 15 = .ok (.dup, 1) := by decide +kernel
theorem dJ8_hugeLength_7cf53_16 : decode cJ8_hugeLength_7cf53 16 = .ok (.invokespecial 91, 3) := by decide +kernel
theorem dJ8_hugeLength_7cf53_19 : decode cJ8_hugeLength_7cf53 19 = .ok (.ldc 206, 2) := by decide +kernel
theorem dJ8_hugeLength_7cf53_21 : decode cJ8_hugeLength_7cf53 21 = .ok (.invokevirtual 94, 3) := by decide +kernel
theorem dJ8_hugeLength_7cf53_24 : decode cJ8_hugeLength_7cf53 24 = .ok (.iload_n 0, 1) := by decide +kernel
theorem dJ8_hugeLength_7cf53_25 : decode cJ8_hugeLength_7cf53 25 = .ok (.invokevirtual 98, 3) := by decide +kernel
theorem dJ8_hugeLength_7cf53_28 : decode cJ8_hugeLength_7cf53 28 = .ok (.ldc 208, 2) := by decide +kernel
theorem dJ8_hugeLength_7cf53_30 : decode cJ8_hugeLength_7cf53 30 = .ok (.invokevirtual 94, 3) := by decide +kernel
theorem dJ8_hugeLength_7cf53_33 : decode cJ8_hugeLength_7cf53 33 = .ok (.iload_n 1, 1) := by decide +kernel
theorem dJ8_hugeLength_7cf53_34 : decode cJ8_hugeLength_7cf53 34 = .ok (.invokevirtual 98, 3) := by decide +kernel
theorem dJ8_hugeLength_7cf53_37 : decode cJ8_hugeLength_7cf53 37 = .ok (.ldc 210, 2) := by decide +kernel
theorem dJ8_hugeLength_7cf53_39 : decode cJ8_hugeLength_7cf53 39 = .ok (.invokevirtual 94, 3) := by decide +kernel
theorem dJ8_hugeLength_7cf53_42 : decode cJ8_hugeLength_7cf53 42 = .ok (.invokevirtual 101, 3) := by decide +kernel
theorem dJ8_hugeLength_7cf53_45 : decode cJ8_hugeLength_7cf53 45 = .ok (.invokespecial 212, 3) := by decide +kernel
theorem dJ8_hugeLength_7cf53_48 : decode cJ8_hugeLength_7cf53 48 = .ok (.athrow, 1) := by decide +kernel
theorem dJ8_hugeLength_7cf53_49 : decode cJ8_hugeLength_7cf53 49 = .ok (.iload_n 2, 1) := by decide +kernel
theorem dJ8_hugeLength_7cf53_50 : decode cJ8_hugeLength_7cf53 50 = .ok (.ldc 200, 2) := by decide +kernel
theorem dJ8_hugeLength_7cf53_52 : decode cJ8_hugeLength_7cf53 52 = .ok (.if_icmp .gt 6, 3) := by decide +kernel
theorem dJ8_hugeLength_7cf53_55 : decode cJ8_hugeLength_7cf53 55 = .ok (.ldc 200, 2) := by decide +kernel
theorem dJ8_hugeLength_7cf53_57 : decode cJ8_hugeLength_7cf53 57 = .ok (.ireturn, 1) := by decide +kernel
theorem dJ8_hugeLength_7cf53_58 : decode cJ8_hugeLength_7cf53 58 = .ok (.iload_n 2, 1) := by decide +kernel
theorem dJ8_hugeLength_7cf53_59 : decode cJ8_hugeLength_7cf53 59 = .ok (.ireturn, 1) := by decide +kernel
theorem dJ3_checkIndex_8e157_0 : decode cJ3_checkIndex_8e157 0 = .ok (.iload_n 0, 1) := by decide +kernel
theorem dJ3_checkIndex_8e157_1 : decode cJ3_checkIndex_8e157 1 = .ok (.ifCond .lt 8, 3) := by decide +kernel
theorem dJ3_checkIndex_8e157_4 : decode cJ3_checkIndex_8e157 4 = .ok (.iload_n 0, 1) := by decide +kernel
theorem dJ3_checkIndex_8e157_5 : decode cJ3_checkIndex_8e157 5 = .ok (.iload_n 1, 1) := by decide +kernel
theorem dJ3_checkIndex_8e157_6 : decode cJ3_checkIndex_8e157 6 = .ok (.if_icmp .lt 10, 3) := by decide +kernel
theorem dJ3_checkIndex_8e157_9 : decode cJ3_checkIndex_8e157 9 = .ok (.aload_n 2, 1) := by decide +kernel
theorem dJ3_checkIndex_8e157_10 : decode cJ3_checkIndex_8e157 10 = .ok (.iload_n 0, 1) := by decide +kernel
theorem dJ3_checkIndex_8e157_11 : decode cJ3_checkIndex_8e157 11 = .ok (.iload_n 1, 1) := by decide +kernel
theorem dJ3_checkIndex_8e157_12 : decode cJ3_checkIndex_8e157 12 = .ok (.invokestatic 95, 3) := by decide +kernel
theorem dJ3_checkIndex_8e157_15 : decode cJ3_checkIndex_8e157 15 = .ok (.athrow, 1) := by decide +kernel
theorem dJ3_checkIndex_8e157_16 : decode cJ3_checkIndex_8e157 16 = .ok (.iload_n 0, 1) := by decide +kernel
theorem dJ3_checkIndex_8e157_17 : decode cJ3_checkIndex_8e157 17 = .ok (.ireturn, 1) := by decide +kernel
theorem dL_cut_0 : decode cL_cut 0 = .ok (.aload 6, 2) := by decide +kernel
theorem dL_cut_2 : decode cL_cut 2 = .ok (.iconst 0, 1) := by decide +kernel
theorem dL_cut_3 : decode cL_cut 3 = .ok (.aload_n 0, 1) := by decide +kernel
theorem dL_cut_4 : decode cL_cut 4 = .ok (.iload_n 1, 1) := by decide +kernel
theorem dL_cut_5 : decode cL_cut 5 = .ok (.iload_n 2, 1) := by decide +kernel
theorem dL_cut_6 : decode cL_cut 6 = .ok (.dload_n 3, 1) := by decide +kernel
theorem dL_cut_7 : decode cL_cut 7 = .ok (.iload 5, 2) := by decide +kernel
theorem dL_cut_9 : decode cL_cut 9 = .ok (.invokevirtual 7, 3) := by decide +kernel
theorem dL_cut_12 : decode cL_cut 12 = .ok (.i2l, 1) := by decide +kernel
theorem dL_cut_13 : decode cL_cut 13 = .ok (.lastore, 1) := by decide +kernel
theorem dL_cut_14 : decode cL_cut 14 = .ok (.goto 11, 3) := by decide +kernel
theorem dL_cut_17 : decode cL_cut 17 = .ok (.astore 7, 2) := by decide +kernel
theorem dL_cut_19 : decode cL_cut 19 = .ok (.iconst 1, 1) := by decide +kernel
theorem dL_cut_20 : decode cL_cut 20 = .ok (.ireturn, 1) := by decide +kernel
theorem dL_cut_21 : decode cL_cut 21 = .ok (.astore 7, 2) := by decide +kernel
theorem dL_cut_23 : decode cL_cut 23 = .ok (.iconst 2, 1) := by decide +kernel
theorem dL_cut_24 : decode cL_cut 24 = .ok (.ireturn, 1) := by decide +kernel
theorem dL_cut_25 : decode cL_cut 25 = .ok (.iconst 0, 1) := by decide +kernel
theorem dL_cut_26 : decode cL_cut 26 = .ok (.ireturn, 1) := by decide +kernel
theorem dL_push_0 : decode cL_push 0 = .ok (.aload_n 3, 1) := by decide +kernel
theorem dL_push_1 : decode cL_push 1 = .ok (.iconst 0, 1) := by decide +kernel
theorem dL_push_2 : decode cL_push 2 = .ok (.aload_n 0, 1) := by decide +kernel
theorem dL_push_3 : decode cL_push 3 = .ok (.dload_n 1, 1) := by decide +kernel
theorem dL_push_4 : decode cL_push 4 = .ok (.invokevirtual 17, 3) := by decide +kernel
theorem dL_push_7 : decode cL_push 7 = .ok (.dastore, 1) := by decide +kernel
theorem dL_push_8 : decode cL_push 8 = .ok (.goto 7, 3) := by decide +kernel
theorem dL_push_11 : decode cL_push 11 = .ok (.astore 4, 2) := by decide +kernel
theorem dL_push_13 : decode cL_push 13 = .ok (.iconst 1, 1) := by decide +kernel
theorem dL_push_14 : decode cL_push 14 = .ok (.ireturn, 1) := by decide +kernel
theorem dL_push_15 : decode cL_push 15 = .ok (.iconst 0, 1) := by decide +kernel
theorem dL_push_16 : decode cL_push 16 = .ok (.ireturn, 1) := by decide +kernel
theorem dL_wish_0 : decode cL_wish 0 = .ok (.aload 4, 2) := by decide +kernel
theorem dL_wish_2 : decode cL_wish 2 = .ok (.iconst 0, 1) := by decide +kernel
theorem dL_wish_3 : decode cL_wish 3 = .ok (.aload_n 0, 1) := by decide +kernel
theorem dL_wish_4 : decode cL_wish 4 = .ok (.iload_n 1, 1) := by decide +kernel
theorem dL_wish_5 : decode cL_wish 5 = .ok (.dload_n 2, 1) := by decide +kernel
theorem dL_wish_6 : decode cL_wish 6 = .ok (.invokevirtual 21, 3) := by decide +kernel
theorem dL_wish_9 : decode cL_wish 9 = .ok (.dastore, 1) := by decide +kernel
theorem dL_wish_10 : decode cL_wish 10 = .ok (.goto 11, 3) := by decide +kernel
theorem dL_wish_13 : decode cL_wish 13 = .ok (.astore 5, 2) := by decide +kernel
theorem dL_wish_15 : decode cL_wish 15 = .ok (.iconst 1, 1) := by decide +kernel
theorem dL_wish_16 : decode cL_wish 16 = .ok (.ireturn, 1) := by decide +kernel
theorem dL_wish_17 : decode cL_wish 17 = .ok (.astore 5, 2) := by decide +kernel
theorem dL_wish_19 : decode cL_wish 19 = .ok (.iconst 2, 1) := by decide +kernel
theorem dL_wish_20 : decode cL_wish 20 = .ok (.ireturn, 1) := by decide +kernel
theorem dL_wish_21 : decode cL_wish 21 = .ok (.iconst 0, 1) := by decide +kernel
theorem dL_wish_22 : decode cL_wish 22 = .ok (.ireturn, 1) := by decide +kernel
theorem dL_stick_0 : decode cL_stick 0 = .ok (.aload_n 3, 1) := by decide +kernel
theorem dL_stick_1 : decode cL_stick 1 = .ok (.iconst 0, 1) := by decide +kernel
theorem dL_stick_2 : decode cL_stick 2 = .ok (.aload_n 0, 1) := by decide +kernel
theorem dL_stick_3 : decode cL_stick 3 = .ok (.iload_n 1, 1) := by decide +kernel
theorem dL_stick_4 : decode cL_stick 4 = .ok (.iload_n 2, 1) := by decide +kernel
theorem dL_stick_5 : decode cL_stick 5 = .ok (.invokevirtual 27, 3) := by decide +kernel
theorem dL_stick_8 : decode cL_stick 8 = .ok (.ifCond .eq 7, 3) := by decide +kernel
theorem dL_stick_11 : decode cL_stick 11 = .ok (.lconst 1, 1) := by decide +kernel
theorem dL_stick_12 : decode cL_stick 12 = .ok (.goto 4, 3) := by decide +kernel
theorem dL_stick_15 : decode cL_stick 15 = .ok (.lconst 0, 1) := by decide +kernel
theorem dL_stick_16 : decode cL_stick 16 = .ok (.lastore, 1) := by decide +kernel
theorem dL_stick_17 : decode cL_stick 17 = .ok (.goto 7, 3) := by decide +kernel
theorem dL_stick_20 : decode cL_stick 20 = .ok (.astore 4, 2) := by decide +kernel
theorem dL_stick_22 : decode cL_stick 22 = .ok (.iconst 1, 1) := by decide +kernel
theorem dL_stick_23 : decode cL_stick 23 = .ok (.ireturn, 1) := by decide +kernel
theorem dL_stick_24 : decode cL_stick 24 = .ok (.iconst 0, 1) := by decide +kernel
theorem dL_stick_25 : decode cL_stick 25 = .ok (.ireturn, 1) := by decide +kernel
theorem dL_fill_0 : decode cL_fill 0 = .ok (.aload 4, 2) := by decide +kernel
theorem dL_fill_2 : decode cL_fill 2 = .ok (.iconst 0, 1) := by decide +kernel
theorem dL_fill_3 : decode cL_fill 3 = .ok (.aload_n 0, 1) := by decide +kernel
theorem dL_fill_4 : decode cL_fill 4 = .ok (.iload_n 1, 1) := by decide +kernel
theorem dL_fill_5 : decode cL_fill 5 = .ok (.dload_n 2, 1) := by decide +kernel
theorem dL_fill_6 : decode cL_fill 6 = .ok (.invokevirtual 31, 3) := by decide +kernel
theorem dL_fill_9 : decode cL_fill 9 = .ok (.dastore, 1) := by decide +kernel
theorem dL_fill_10 : decode cL_fill 10 = .ok (.goto 11, 3) := by decide +kernel
theorem dL_fill_13 : decode cL_fill 13 = .ok (.astore 5, 2) := by decide +kernel
theorem dL_fill_15 : decode cL_fill 15 = .ok (.iconst 1, 1) := by decide +kernel
theorem dL_fill_16 : decode cL_fill 16 = .ok (.ireturn, 1) := by decide +kernel
theorem dL_fill_17 : decode cL_fill 17 = .ok (.astore 5, 2) := by decide +kernel
theorem dL_fill_19 : decode cL_fill 19 = .ok (.iconst 2, 1) := by decide +kernel
theorem dL_fill_20 : decode cL_fill 20 = .ok (.ireturn, 1) := by decide +kernel
theorem dL_fill_21 : decode cL_fill 21 = .ok (.iconst 0, 1) := by decide +kernel
theorem dL_fill_22 : decode cL_fill 22 = .ok (.ireturn, 1) := by decide +kernel
theorem dL_tick_0 : decode cL_tick 0 = .ok (.aload_n 2, 1) := by decide +kernel
theorem dL_tick_1 : decode cL_tick 1 = .ok (.iconst 0, 1) := by decide +kernel
theorem dL_tick_2 : decode cL_tick 2 = .ok (.aload_n 0, 1) := by decide +kernel
theorem dL_tick_3 : decode cL_tick 3 = .ok (.iload_n 1, 1) := by decide +kernel
theorem dL_tick_4 : decode cL_tick 4 = .ok (.invokevirtual 34, 3) := by decide +kernel
theorem dL_tick_7 : decode cL_tick 7 = .ok (.i2l, 1) := by decide +kernel
theorem dL_tick_8 : decode cL_tick 8 = .ok (.lastore, 1) := by decide +kernel
theorem dL_tick_9 : decode cL_tick 9 = .ok (.goto 6, 3) := by decide +kernel
theorem dL_tick_12 : decode cL_tick 12 = .ok (.astore_n 3, 1) := by decide +kernel
theorem dL_tick_13 : decode cL_tick 13 = .ok (.iconst 1, 1) := by decide +kernel
theorem dL_tick_14 : decode cL_tick 14 = .ok (.ireturn, 1) := by decide +kernel
theorem dL_tick_15 : decode cL_tick 15 = .ok (.iconst 0, 1) := by decide +kernel
theorem dL_tick_16 : decode cL_tick 16 = .ok (.ireturn, 1) := by decide +kernel
theorem dL_place_0 : decode cL_place 0 = .ok (.aload_n 2, 1) := by decide +kernel
theorem dL_place_1 : decode cL_place 1 = .ok (.iconst 0, 1) := by decide +kernel
theorem dL_place_2 : decode cL_place 2 = .ok (.aload_n 0, 1) := by decide +kernel
theorem dL_place_3 : decode cL_place 3 = .ok (.iload_n 1, 1) := by decide +kernel
theorem dL_place_4 : decode cL_place 4 = .ok (.invokevirtual 38, 3) := by decide +kernel
theorem dL_place_7 : decode cL_place 7 = .ok (.dastore, 1) := by decide +kernel
theorem dL_place_8 : decode cL_place 8 = .ok (.goto 6, 3) := by decide +kernel
theorem dL_place_11 : decode cL_place 11 = .ok (.astore_n 3, 1) := by decide +kernel
theorem dL_place_12 : decode cL_place 12 = .ok (.iconst 1, 1) := by decide +kernel
theorem dL_place_13 : decode cL_place 13 = .ok (.ireturn, 1) := by decide +kernel
theorem dL_place_14 : decode cL_place 14 = .ok (.iconst 0, 1) := by decide +kernel
theorem dL_place_15 : decode cL_place 15 = .ok (.ireturn, 1) := by decide +kernel
theorem dL_speed_0 : decode cL_speed 0 = .ok (.aload_n 2, 1) := by decide +kernel
theorem dL_speed_1 : decode cL_speed 1 = .ok (.iconst 0, 1) := by decide +kernel
theorem dL_speed_2 : decode cL_speed 2 = .ok (.aload_n 0, 1) := by decide +kernel
theorem dL_speed_3 : decode cL_speed 3 = .ok (.iload_n 1, 1) := by decide +kernel
theorem dL_speed_4 : decode cL_speed 4 = .ok (.invokevirtual 42, 3) := by decide +kernel
theorem dL_speed_7 : decode cL_speed 7 = .ok (.dastore, 1) := by decide +kernel
theorem dL_speed_8 : decode cL_speed 8 = .ok (.goto 6, 3) := by decide +kernel
theorem dL_speed_11 : decode cL_speed 11 = .ok (.astore_n 3, 1) := by decide +kernel
theorem dL_speed_12 : decode cL_speed 12 = .ok (.iconst 1, 1) := by decide +kernel
theorem dL_speed_13 : decode cL_speed 13 = .ok (.ireturn, 1) := by decide +kernel
theorem dL_speed_14 : decode cL_speed 14 = .ok (.iconst 0, 1) := by decide +kernel
theorem dL_speed_15 : decode cL_speed 15 = .ok (.ireturn, 1) := by decide +kernel
theorem dL_told_0 : decode cL_told 0 = .ok (.aload_n 3, 1) := by decide +kernel
theorem dL_told_1 : decode cL_told 1 = .ok (.iconst 0, 1) := by decide +kernel
theorem dL_told_2 : decode cL_told 2 = .ok (.aload_n 0, 1) := by decide +kernel
theorem dL_told_3 : decode cL_told 3 = .ok (.iload_n 1, 1) := by decide +kernel
theorem dL_told_4 : decode cL_told 4 = .ok (.iload_n 2, 1) := by decide +kernel
theorem dL_told_5 : decode cL_told 5 = .ok (.invokevirtual 45, 3) := by decide +kernel
theorem dL_told_8 : decode cL_told 8 = .ok (.i2l, 1) := by decide +kernel
theorem dL_told_9 : decode cL_told 9 = .ok (.lastore, 1) := by decide +kernel
theorem dL_told_10 : decode cL_told 10 = .ok (.goto 11, 3) := by decide +kernel
theorem dL_told_13 : decode cL_told 13 = .ok (.astore 4, 2) := by decide +kernel
theorem dL_told_15 : decode cL_told 15 = .ok (.iconst 1, 1) := by decide +kernel
theorem dL_told_16 : decode cL_told 16 = .ok (.ireturn, 1) := by decide +kernel
theorem dL_told_17 : decode cL_told 17 = .ok (.astore 4, 2) := by decide +kernel
theorem dL_told_19 : decode cL_told 19 = .ok (.iconst 2, 1) := by decide +kernel
theorem dL_told_20 : decode cL_told 20 = .ok (.ireturn, 1) := by decide +kernel
theorem dL_told_21 : decode cL_told 21 = .ok (.iconst 0, 1) := by decide +kernel
theorem dL_told_22 : decode cL_told 22 = .ok (.ireturn, 1) := by decide +kernel
theorem dL_point_0 : decode cL_point 0 = .ok (.aload_n 3, 1) := by decide +kernel
theorem dL_point_1 : decode cL_point 1 = .ok (.iconst 0, 1) := by decide +kernel
theorem dL_point_2 : decode cL_point 2 = .ok (.aload_n 0, 1) := by decide +kernel
theorem dL_point_3 : decode cL_point 3 = .ok (.iload_n 1, 1) := by decide +kernel
theorem dL_point_4 : decode cL_point 4 = .ok (.iload_n 2, 1) := by decide +kernel
theorem dL_point_5 : decode cL_point 5 = .ok (.invokevirtual 49, 3) := by decide +kernel
theorem dL_point_8 : decode cL_point 8 = .ok (.i2l, 1) := by decide +kernel
theorem dL_point_9 : decode cL_point 9 = .ok (.lastore, 1) := by decide +kernel
theorem dL_point_10 : decode cL_point 10 = .ok (.goto 11, 3) := by decide +kernel
theorem dL_point_13 : decode cL_point 13 = .ok (.astore 4, 2) := by decide +kernel
theorem dL_point_15 : decode cL_point 15 = .ok (.iconst 1, 1) := by decide +kernel
theorem dL_point_16 : decode cL_point 16 = .ok (.ireturn, 1) := by decide +kernel
theorem dL_point_17 : decode cL_point 17 = .ok (.astore 4, 2) := by decide +kernel
theorem dL_point_19 : decode cL_point 19 = .ok (.iconst 2, 1) := by decide +kernel
theorem dL_point_20 : decode cL_point 20 = .ok (.ireturn, 1) := by decide +kernel
theorem dL_point_21 : decode cL_point 21 = .ok (.iconst 0, 1) := by decide +kernel
theorem dL_point_22 : decode cL_point 22 = .ok (.ireturn, 1) := by decide +kernel
theorem dL_siding_0 : decode cL_siding 0 = .ok (.aload_n 3, 1) := by decide +kernel
theorem dL_siding_1 : decode cL_siding 1 = .ok (.iconst 0, 1) := by decide +kernel
theorem dL_siding_2 : decode cL_siding 2 = .ok (.aload_n 0, 1) := by decide +kernel
theorem dL_siding_3 : decode cL_siding 3 = .ok (.iload_n 1, 1) := by decide +kernel
theorem dL_siding_4 : decode cL_siding 4 = .ok (.iload_n 2, 1) := by decide +kernel
theorem dL_siding_5 : decode cL_siding 5 = .ok (.invokevirtual 52, 3) := by decide +kernel
theorem dL_siding_8 : decode cL_siding 8 = .ok (.i2l, 1) := by decide +kernel
theorem dL_siding_9 : decode cL_siding 9 = .ok (.lastore, 1) := by decide +kernel
theorem dL_siding_10 : decode cL_siding 10 = .ok (.goto 7, 3) := by decide +kernel
theorem dL_siding_13 : decode cL_siding 13 = .ok (.astore 4, 2) := by decide +kernel
theorem dL_siding_15 : decode cL_siding 15 = .ok (.iconst 1, 1) := by decide +kernel
theorem dL_siding_16 : decode cL_siding 16 = .ok (.ireturn, 1) := by decide +kernel
theorem dL_siding_17 : decode cL_siding 17 = .ok (.iconst 0, 1) := by decide +kernel
theorem dL_siding_18 : decode cL_siding 18 = .ok (.ireturn, 1) := by decide +kernel
theorem dL_event_0 : decode cL_event 0 = .ok (.aload_n 3, 1) := by decide +kernel
theorem dL_event_1 : decode cL_event 1 = .ok (.iconst 0, 1) := by decide +kernel
theorem dL_event_2 : decode cL_event 2 = .ok (.aload_n 0, 1) := by decide +kernel
theorem dL_event_3 : decode cL_event 3 = .ok (.iload_n 1, 1) := by decide +kernel
theorem dL_event_4 : decode cL_event 4 = .ok (.iload_n 2, 1) := by decide +kernel
theorem dL_event_5 : decode cL_event 5 = .ok (.invokevirtual 55, 3) := by decide +kernel
theorem dL_event_8 : decode cL_event 8 = .ok (.i2l, 1) := by decide +kernel
theorem dL_event_9 : decode cL_event 9 = .ok (.lastore, 1) := by decide +kernel
theorem dL_event_10 : decode cL_event 10 = .ok (.goto 11, 3) := by decide +kernel
theorem dL_event_13 : decode cL_event 13 = .ok (.astore 4, 2) := by decide +kernel
theorem dL_event_15 : decode cL_event 15 = .ok (.iconst 1, 1) := by decide +kernel
theorem dL_event_16 : decode cL_event 16 = .ok (.ireturn, 1) := by decide +kernel
theorem dL_event_17 : decode cL_event 17 = .ok (.astore 4, 2) := by decide +kernel
theorem dL_event_19 : decode cL_event 19 = .ok (.iconst 2, 1) := by decide +kernel
theorem dL_event_20 : decode cL_event 20 = .ok (.ireturn, 1) := by decide +kernel
theorem dL_event_21 : decode cL_event 21 = .ok (.iconst 0, 1) := by decide +kernel
theorem dL_event_22 : decode cL_event 22 = .ok (.ireturn, 1) := by decide +kernel
theorem dL_about_0 : decode cL_about 0 = .ok (.aload_n 2, 1) := by decide +kernel
theorem dL_about_1 : decode cL_about 1 = .ok (.iconst 0, 1) := by decide +kernel
theorem dL_about_2 : decode cL_about 2 = .ok (.aload_n 0, 1) := by decide +kernel
theorem dL_about_3 : decode cL_about 3 = .ok (.iload_n 1, 1) := by decide +kernel
theorem dL_about_4 : decode cL_about 4 = .ok (.invokevirtual 58, 3) := by decide +kernel
theorem dL_about_7 : decode cL_about 7 = .ok (.i2l, 1) := by decide +kernel
theorem dL_about_8 : decode cL_about 8 = .ok (.lastore, 1) := by decide +kernel
theorem dL_about_9 : decode cL_about 9 = .ok (.goto 6, 3) := by decide +kernel
theorem dL_about_12 : decode cL_about 12 = .ok (.astore_n 3, 1) := by decide +kernel
theorem dL_about_13 : decode cL_about 13 = .ok (.iconst 1, 1) := by decide +kernel
theorem dL_about_14 : decode cL_about 14 = .ok (.ireturn, 1) := by decide +kernel
theorem dL_about_15 : decode cL_about 15 = .ok (.iconst 0, 1) := by decide +kernel
theorem dL_about_16 : decode cL_about 16 = .ok (.ireturn, 1) := by decide +kernel
end
section
def WS : List Cond := lw_tbl.filter goodWord
theorem WS_good {w : Cond} (h : w ∈ WS) : goodWord w = true := (List.mem_filter.mp h).2
theorem WS_m0 {w : Cond} {i : Nat} (h : (k2_sels lw_privs)[i]? = some w) (g : goodWord w = true) : w ∈ WS := List.mem_filter.mpr ⟨List.mem_append_left _ (List.mem_of_getElem? h), g⟩
theorem WS_m1 {w : Cond} {i : Nat} (h : tables_1_1[i]? = some w) (g : goodWord w = true) : w ∈ WS := List.mem_filter.mpr ⟨List.mem_append_right _ (List.mem_append_left _ (List.mem_of_getElem? h)), g⟩
theorem WS_m2 {w : Cond} {i : Nat} (h : tables_1_2[i]? = some w) (g : goodWord w = true) : w ∈ WS := List.mem_filter.mpr ⟨List.mem_append_right _ (List.mem_append_right _ (List.mem_append_left _ (List.mem_of_getElem? h))), g⟩
theorem WS_m3 {w : Cond} {i : Nat} (h : tables_1_3[i]? = some w) (g : goodWord w = true) : w ∈ WS := List.mem_filter.mpr ⟨List.mem_append_right _ (List.mem_append_right _ (List.mem_append_right _ (List.mem_append_left _ (List.mem_of_getElem? h)))), g⟩
theorem WS_m4 {w : Cond} {i : Nat} (h : tables_1_4[i]? = some w) (g : goodWord w = true) : w ∈ WS := List.mem_filter.mpr ⟨List.mem_append_right _ (List.mem_append_right _ (List.mem_append_right _ (List.mem_append_right _ (List.mem_of_getElem? h)))), g⟩
theorem kv_java_lang_Throwable_fillInStackTrace : (Cond.selects "java/lang/Throwable" ({ cls := "java/lang/Throwable", name := "fillInStackTrace", desc := "(I)Ljava/lang/Throwable;" } : MethodName) ({ cls := "java/lang/Throwable", name := "fillInStackTrace", desc := "(I)Ljava/lang/Throwable;" } : MethodName)) ∈ WS := WS_m0 (i := 0) rfl rfl
theorem kv_Jx4a65c_add_72be8 : (Cond.selects "java/util/ArrayList" ({ cls := "java/util/ArrayList", name := "add", desc := "(Ljava/lang/Object;[Ljava/lang/Object;I)V" } : MethodName) ({ cls := "java/util/ArrayList", name := "add", desc := "(Ljava/lang/Object;[Ljava/lang/Object;I)V" } : MethodName)) ∈ WS := WS_m0 (i := 1) rfl rfl
theorem kv_Jx4a65c_grow_d5877 : (Cond.selects "java/util/ArrayList" ({ cls := "java/util/ArrayList", name := "grow", desc := "()[Ljava/lang/Object;" } : MethodName) ({ cls := "java/util/ArrayList", name := "grow", desc := "()[Ljava/lang/Object;" } : MethodName)) ∈ WS := WS_m0 (i := 2) rfl rfl
theorem kv_Jx4a65c_grow_92f84 : (Cond.selects "java/util/ArrayList" ({ cls := "java/util/ArrayList", name := "grow", desc := "(I)[Ljava/lang/Object;" } : MethodName) ({ cls := "java/util/ArrayList", name := "grow", desc := "(I)[Ljava/lang/Object;" } : MethodName)) ∈ WS := WS_m0 (i := 3) rfl rfl
theorem kv_X2_goOnTurning : (Cond.selects "HumpYard" ({ cls := "HumpYard", name := "goOnTurning", desc := "()V" } : MethodName) ({ cls := "HumpYard", name := "goOnTurning", desc := "()V" } : MethodName)) ∈ WS := WS_m0 (i := 4) rfl rfl
theorem kv_X2_beginTurning : (Cond.selects "HumpYard" ({ cls := "HumpYard", name := "beginTurning", desc := "()V" } : MethodName) ({ cls := "HumpYard", name := "beginTurning", desc := "()V" } : MethodName)) ∈ WS := WS_m0 (i := 5) rfl rfl
theorem kv_X2_isBusy : (Cond.selects "HumpYard" ({ cls := "HumpYard", name := "isBusy", desc := "(I)Z" } : MethodName) ({ cls := "HumpYard", name := "isBusy", desc := "(I)Z" } : MethodName)) ∈ WS := WS_m0 (i := 6) rfl rfl
theorem kv_X2_firstBoundFor : (Cond.selects "HumpYard" ({ cls := "HumpYard", name := "firstBoundFor", desc := "(I)LHumpYard$Cut;" } : MethodName) ({ cls := "HumpYard", name := "firstBoundFor", desc := "(I)LHumpYard$Cut;" } : MethodName)) ∈ WS := WS_m0 (i := 7) rfl rfl
theorem kv_X2_rollAll : (Cond.selects "HumpYard" ({ cls := "HumpYard", name := "rollAll", desc := "()V" } : MethodName) ({ cls := "HumpYard", name := "rollAll", desc := "()V" } : MethodName)) ∈ WS := WS_m0 (i := 8) rfl rfl
theorem kv_X2_acceleration : (Cond.selects "HumpYard" ({ cls := "HumpYard", name := "acceleration", desc := "(LHumpYard$Cut;)D" } : MethodName) ({ cls := "HumpYard", name := "acceleration", desc := "(LHumpYard$Cut;)D" } : MethodName)) ∈ WS := WS_m0 (i := 9) rfl rfl
theorem kv_X2_brakeSteps : (Cond.selects "HumpYard" ({ cls := "HumpYard", name := "brakeSteps", desc := "(LHumpYard$Cut;II)I" } : MethodName) ({ cls := "HumpYard", name := "brakeSteps", desc := "(LHumpYard$Cut;II)I" } : MethodName)) ∈ WS := WS_m0 (i := 10) rfl rfl
theorem kv_X2_passPoints : (Cond.selects "HumpYard" ({ cls := "HumpYard", name := "passPoints", desc := "(LHumpYard$Cut;D)V" } : MethodName) ({ cls := "HumpYard", name := "passPoints", desc := "(LHumpYard$Cut;D)V" } : MethodName)) ∈ WS := WS_m0 (i := 11) rfl rfl
theorem kv_X2_pass : (Cond.selects "HumpYard" ({ cls := "HumpYard", name := "pass", desc := "(LHumpYard$Cut;I)V" } : MethodName) ({ cls := "HumpYard", name := "pass", desc := "(LHumpYard$Cut;I)V" } : MethodName)) ∈ WS := WS_m0 (i := 12) rfl rfl
theorem kv_X2_catchAll : (Cond.selects "HumpYard" ({ cls := "HumpYard", name := "catchAll", desc := "()V" } : MethodName) ({ cls := "HumpYard", name := "catchAll", desc := "()V" } : MethodName)) ∈ WS := WS_m0 (i := 13) rfl rfl
theorem kv_X2_aheadOf : (Cond.selects "HumpYard" ({ cls := "HumpYard", name := "aheadOf", desc := "(ILHumpYard$Cut;)LHumpYard$Cut;" } : MethodName) ({ cls := "HumpYard", name := "aheadOf", desc := "(ILHumpYard$Cut;)LHumpYard$Cut;" } : MethodName)) ∈ WS := WS_m0 (i := 14) rfl rfl
theorem kv_X2_catchUp : (Cond.selects "HumpYard" ({ cls := "HumpYard", name := "catchUp", desc := "(LHumpYard$Cut;LHumpYard$Cut;)V" } : MethodName) ({ cls := "HumpYard", name := "catchUp", desc := "(LHumpYard$Cut;LHumpYard$Cut;)V" } : MethodName)) ∈ WS := WS_m0 (i := 15) rfl rfl
theorem kv_X2_endAll : (Cond.selects "HumpYard" ({ cls := "HumpYard", name := "endAll", desc := "()V" } : MethodName) ({ cls := "HumpYard", name := "endAll", desc := "()V" } : MethodName)) ∈ WS := WS_m0 (i := 16) rfl rfl
theorem kv_X2_endOnTrack : (Cond.selects "HumpYard" ({ cls := "HumpYard", name := "endOnTrack", desc := "(LHumpYard$Cut;I)V" } : MethodName) ({ cls := "HumpYard", name := "endOnTrack", desc := "(LHumpYard$Cut;I)V" } : MethodName)) ∈ WS := WS_m0 (i := 17) rfl rfl
theorem kv_X2_land : (Cond.selects "HumpYard" ({ cls := "HumpYard", name := "land", desc := "(LHumpYard$Cut;I)V" } : MethodName) ({ cls := "HumpYard", name := "land", desc := "(LHumpYard$Cut;I)V" } : MethodName)) ∈ WS := WS_m0 (i := 18) rfl rfl
theorem kv_X2_enterSiding : (Cond.selects "HumpYard" ({ cls := "HumpYard", name := "enterSiding", desc := "(LHumpYard$Cut;I)V" } : MethodName) ({ cls := "HumpYard", name := "enterSiding", desc := "(LHumpYard$Cut;I)V" } : MethodName)) ∈ WS := WS_m0 (i := 19) rfl rfl
theorem kv_X2_stand : (Cond.selects "HumpYard" ({ cls := "HumpYard", name := "stand", desc := "(LHumpYard$Cut;I)V" } : MethodName) ({ cls := "HumpYard", name := "stand", desc := "(LHumpYard$Cut;I)V" } : MethodName)) ∈ WS := WS_m0 (i := 20) rfl rfl
theorem kv_Jx4a65c_fastRemove_b59b0 : (Cond.selects "java/util/ArrayList" ({ cls := "java/util/ArrayList", name := "fastRemove", desc := "([Ljava/lang/Object;I)V" } : MethodName) ({ cls := "java/util/ArrayList", name := "fastRemove", desc := "([Ljava/lang/Object;I)V" } : MethodName)) ∈ WS := WS_m0 (i := 21) rfl rfl
theorem kv_X2_pushNext : (Cond.selects "HumpYard" ({ cls := "HumpYard", name := "pushNext", desc := "()V" } : MethodName) ({ cls := "HumpYard", name := "pushNext", desc := "()V" } : MethodName)) ∈ WS := WS_m0 (i := 22) rfl rfl
theorem kv_X2_isCrestClear : (Cond.selects "HumpYard" ({ cls := "HumpYard", name := "isCrestClear", desc := "()Z" } : MethodName) ({ cls := "HumpYard", name := "isCrestClear", desc := "()Z" } : MethodName)) ∈ WS := WS_m0 (i := 23) rfl rfl
theorem kv_X2_cutOf : (Cond.selects "HumpYard" ({ cls := "HumpYard", name := "cutOf", desc := "(I)LHumpYard$Cut;" } : MethodName) ({ cls := "HumpYard", name := "cutOf", desc := "(I)LHumpYard$Cut;" } : MethodName)) ∈ WS := WS_m0 (i := 24) rfl rfl
theorem kv_X3_refuses : (Cond.selects "HumpYardModel" ({ cls := "HumpYardModel", name := "refuses", desc := "(I)Z" } : MethodName) ({ cls := "HumpYardModel", name := "refuses", desc := "(I)Z" } : MethodName)) ∈ WS := WS_m0 (i := 25) rfl rfl
theorem kv_X3_points : (Cond.selects "HumpYardModel" ({ cls := "HumpYardModel", name := "points", desc := "()V" } : MethodName) ({ cls := "HumpYardModel", name := "points", desc := "()V" } : MethodName)) ∈ WS := WS_m0 (i := 26) rfl rfl
theorem kv_X3_isBusy : (Cond.selects "HumpYardModel" ({ cls := "HumpYardModel", name := "isBusy", desc := "(I)Z" } : MethodName) ({ cls := "HumpYardModel", name := "isBusy", desc := "(I)Z" } : MethodName)) ∈ WS := WS_m0 (i := 27) rfl rfl
theorem kv_X3_goesBy : (Cond.selects "HumpYardModel" ({ cls := "HumpYardModel", name := "goesBy", desc := "(II)Z" } : MethodName) ({ cls := "HumpYardModel", name := "goesBy", desc := "(II)Z" } : MethodName)) ∈ WS := WS_m0 (i := 28) rfl rfl
theorem kv_X3_rear : (Cond.selects "HumpYardModel" ({ cls := "HumpYardModel", name := "rear", desc := "(I)D" } : MethodName) ({ cls := "HumpYardModel", name := "rear", desc := "(I)D" } : MethodName)) ∈ WS := WS_m0 (i := 29) rfl rfl
theorem kv_X3_bound : (Cond.selects "HumpYardModel" ({ cls := "HumpYardModel", name := "bound", desc := "(I)I" } : MethodName) ({ cls := "HumpYardModel", name := "bound", desc := "(I)I" } : MethodName)) ∈ WS := WS_m0 (i := 30) rfl rfl
theorem kv_X3_rolls : (Cond.selects "HumpYardModel" ({ cls := "HumpYardModel", name := "rolls", desc := "(I)V" } : MethodName) ({ cls := "HumpYardModel", name := "rolls", desc := "(I)V" } : MethodName)) ∈ WS := WS_m0 (i := 31) rfl rfl
theorem kv_X3_brakes : (Cond.selects "HumpYardModel" ({ cls := "HumpYardModel", name := "brakes", desc := "(II)D" } : MethodName) ({ cls := "HumpYardModel", name := "brakes", desc := "(II)D" } : MethodName)) ∈ WS := WS_m0 (i := 32) rfl rfl
theorem kv_X3_notes : (Cond.selects "HumpYardModel" ({ cls := "HumpYardModel", name := "notes", desc := "(III)V" } : MethodName) ({ cls := "HumpYardModel", name := "notes", desc := "(III)V" } : MethodName)) ∈ WS := WS_m0 (i := 33) rfl rfl
theorem kv_X3_catches : (Cond.selects "HumpYardModel" ({ cls := "HumpYardModel", name := "catches", desc := "(I)V" } : MethodName) ({ cls := "HumpYardModel", name := "catches", desc := "(I)V" } : MethodName)) ∈ WS := WS_m0 (i := 34) rfl rfl
theorem kv_X3_ahead : (Cond.selects "HumpYardModel" ({ cls := "HumpYardModel", name := "ahead", desc := "(I)I" } : MethodName) ({ cls := "HumpYardModel", name := "ahead", desc := "(I)I" } : MethodName)) ∈ WS := WS_m0 (i := 35) rfl rfl
theorem kv_X3_ends : (Cond.selects "HumpYardModel" ({ cls := "HumpYardModel", name := "ends", desc := "(I)V" } : MethodName) ({ cls := "HumpYardModel", name := "ends", desc := "(I)V" } : MethodName)) ∈ WS := WS_m0 (i := 36) rfl rfl
theorem kv_X3_pushes : (Cond.selects "HumpYardModel" ({ cls := "HumpYardModel", name := "pushes", desc := "()V" } : MethodName) ({ cls := "HumpYardModel", name := "pushes", desc := "()V" } : MethodName)) ∈ WS := WS_m0 (i := 37) rfl rfl
theorem kv_X3_isCut : (Cond.selects "HumpYardModel" ({ cls := "HumpYardModel", name := "isCut", desc := "(I)Z" } : MethodName) ({ cls := "HumpYardModel", name := "isCut", desc := "(I)Z" } : MethodName)) ∈ WS := WS_m0 (i := 38) rfl rfl
theorem ki_L : (Cond.initialized "HumpYardLaw") ∈ WS := WS_m1 (i := 0) rfl rfl
theorem ki_X2 : (Cond.initialized "HumpYard") ∈ WS := WS_m1 (i := 1) rfl rfl
theorem ki_Jxa1e45 : (Cond.initialized "java/util/AbstractCollection") ∈ WS := WS_m1 (i := 2) rfl rfl
theorem ki_Jxc12de : (Cond.initialized "java/util/AbstractList") ∈ WS := WS_m1 (i := 3) rfl rfl
theorem ki_Jx4a65c : (Cond.initialized "java/util/ArrayList") ∈ WS := WS_m1 (i := 4) rfl rfl
theorem ki_X1 : (Cond.initialized "HumpYard$EventLog") ∈ WS := WS_m1 (i := 5) rfl rfl
theorem ki_J7 : (Cond.initialized "java/util/Arrays") ∈ WS := WS_m1 (i := 6) rfl rfl
theorem ki_X3 : (Cond.initialized "HumpYardModel") ∈ WS := WS_m1 (i := 7) rfl rfl
theorem ki_java_lang_Throwable : (Cond.initialized "java/lang/Throwable") ∈ WS := WS_m1 (i := 8) rfl rfl
theorem ki_java_lang_Exception : (Cond.initialized "java/lang/Exception") ∈ WS := WS_m1 (i := 9) rfl rfl
theorem ki_java_lang_RuntimeException : (Cond.initialized "java/lang/RuntimeException") ∈ WS := WS_m1 (i := 10) rfl rfl
theorem ki_java_lang_IllegalArgumentException : (Cond.initialized "java/lang/IllegalArgumentException") ∈ WS := WS_m1 (i := 11) rfl rfl
theorem ki_java_lang_UnsupportedOperationException : (Cond.initialized "java/lang/UnsupportedOperationException") ∈ WS := WS_m1 (i := 12) rfl rfl
theorem ki_X0 : (Cond.initialized "HumpYard$Cut") ∈ WS := WS_m1 (i := 13) rfl rfl
theorem ki_J8 : (Cond.initialized "jdk/internal/util/ArraysSupport") ∈ WS := WS_m1 (i := 14) rfl rfl
theorem ki_J9 : (Cond.initialized "java/lang/Math") ∈ WS := WS_m1 (i := 15) rfl rfl
theorem ki_J10 : (Cond.initialized "java/lang/System") ∈ WS := WS_m1 (i := 16) rfl rfl
theorem ki_java_lang_IndexOutOfBoundsException : (Cond.initialized "java/lang/IndexOutOfBoundsException") ∈ WS := WS_m1 (i := 17) rfl rfl
theorem ki_J15 : (Cond.initialized "java/util/Objects") ∈ WS := WS_m1 (i := 18) rfl rfl
theorem ki_J3 : (Cond.initialized "jdk/internal/util/Preconditions") ∈ WS := WS_m1 (i := 19) rfl rfl
theorem kl_L_8 : (Cond.classLink "HumpYardLaw" (8 : Nat) "HumpYard") ∈ WS := WS_m1 (i := 20) rfl rfl
theorem kt_X2 : (Cond.instantiable "HumpYard" (16 : Nat)) ∈ WS := WS_m1 (i := 21) rfl rfl
theorem km_L_61 : (Cond.methodLink "HumpYardLaw" (61 : Nat) ({ cls := "HumpYard", name := "<init>", desc := "()V" } : MethodName)) ∈ WS := WS_m1 (i := 22) rfl rfl
theorem kn_X2_init : (Cond.instanceMethod ({ cls := "HumpYard", name := "<init>", desc := "()V" } : MethodName)) ∈ WS := WS_m1 (i := 23) rfl rfl
theorem kc_X2_init : (Cond.code ({ cls := "HumpYard", name := "<init>", desc := "()V" } : MethodName) prog_1_method_1_code (1 : Nat) (Option.none : Option ClassFile.FieldType)) ∈ WS := WS_m1 (i := 24) rfl rfl
theorem km_X2_1 : (Cond.methodLink "HumpYard" (1 : Nat) ({ cls := "java/lang/Object", name := "<init>", desc := "()V" } : MethodName)) ∈ WS := WS_m1 (i := 25) rfl rfl
theorem kn_Object__init__6b9f : (Cond.instanceMethod ({ cls := "java/lang/Object", name := "<init>", desc := "()V" } : MethodName)) ∈ WS := WS_m1 (i := 26) rfl rfl
theorem kc_Object__init__6b9f : (Cond.code ({ cls := "java/lang/Object", name := "<init>", desc := "()V" } : MethodName) object_method_1_code (1 : Nat) (Option.none : Option ClassFile.FieldType)) ∈ WS := WS_m1 (i := 27) rfl rfl
theorem kl_X2_7 : (Cond.classLink "HumpYard" (7 : Nat) "java/util/ArrayList") ∈ WS := WS_m1 (i := 28) rfl rfl
theorem kt_Jx4a65c : (Cond.instantiable "java/util/ArrayList" (3 : Nat)) ∈ WS := WS_m1 (i := 29) rfl rfl
theorem km_X2_9 : (Cond.methodLink "HumpYard" (9 : Nat) ({ cls := "java/util/ArrayList", name := "<init>", desc := "()V" } : MethodName)) ∈ WS := WS_m1 (i := 30) rfl rfl
theorem kn_Jx4a65c_init_da8c8 : (Cond.instanceMethod ({ cls := "java/util/ArrayList", name := "<init>", desc := "()V" } : MethodName)) ∈ WS := WS_m1 (i := 31) rfl rfl
theorem kc_Jx4a65c_init_da8c8 : (Cond.code ({ cls := "java/util/ArrayList", name := "<init>", desc := "()V" } : MethodName) prog_20_method_2_code (1 : Nat) (Option.none : Option ClassFile.FieldType)) ∈ WS := WS_m1 (i := 32) rfl rfl
theorem km_Jx4a65c_1 : (Cond.methodLink "java/util/ArrayList" (1 : Nat) ({ cls := "java/util/AbstractList", name := "<init>", desc := "()V" } : MethodName)) ∈ WS := WS_m1 (i := 33) rfl rfl
theorem kn_Jxc12de_init_da8c8 : (Cond.instanceMethod ({ cls := "java/util/AbstractList", name := "<init>", desc := "()V" } : MethodName)) ∈ WS := WS_m1 (i := 34) rfl rfl
theorem kc_Jxc12de_init_da8c8 : (Cond.code ({ cls := "java/util/AbstractList", name := "<init>", desc := "()V" } : MethodName) prog_19_method_1_code (1 : Nat) (Option.none : Option ClassFile.FieldType)) ∈ WS := WS_m1 (i := 35) rfl rfl
theorem km_Jxc12de_1 : (Cond.methodLink "java/util/AbstractList" (1 : Nat) ({ cls := "java/util/AbstractCollection", name := "<init>", desc := "()V" } : MethodName)) ∈ WS := WS_m1 (i := 36) rfl rfl
theorem kn_Jxa1e45_init_da8c8 : (Cond.instanceMethod ({ cls := "java/util/AbstractCollection", name := "<init>", desc := "()V" } : MethodName)) ∈ WS := WS_m1 (i := 37) rfl rfl
theorem kc_Jxa1e45_init_da8c8 : (Cond.code ({ cls := "java/util/AbstractCollection", name := "<init>", desc := "()V" } : MethodName) prog_18_method_1_code (1 : Nat) (Option.none : Option ClassFile.FieldType)) ∈ WS := WS_m1 (i := 38) rfl rfl
theorem km_Jxa1e45_1 : (Cond.methodLink "java/util/AbstractCollection" (1 : Nat) ({ cls := "java/lang/Object", name := "<init>", desc := "()V" } : MethodName)) ∈ WS := WS_m1 (i := 39) rfl rfl
theorem kf_Jx4a65c_39 : (Cond.fieldLink "java/util/ArrayList" (39 : Nat) "java/util/ArrayList" "DEFAULTCAPACITY_EMPTY_ELEMENTDATA" "[Ljava/lang/Object;") ∈ WS := WS_m1 (i := 40) rfl rfl
theorem kf_Jx4a65c_9 : (Cond.fieldLink "java/util/ArrayList" (9 : Nat) "java/util/ArrayList" "elementData" "[Ljava/lang/Object;") ∈ WS := WS_m1 (i := 42) rfl rfl
theorem kf_Jx4a65c_48 : (Cond.fieldLink "java/util/ArrayList" (48 : Nat) "java/util/ArrayList" "size" "I") ∈ WS := WS_m1 (i := 43) rfl rfl
theorem kf_Jxc12de_7 : (Cond.fieldLink "java/util/AbstractList" (7 : Nat) "java/util/AbstractList" "modCount" "I") ∈ WS := WS_m1 (i := 44) rfl rfl
theorem kf_Jx4a65c_63 : (Cond.fieldLink "java/util/ArrayList" (63 : Nat) "java/util/ArrayList" "modCount" "I") ∈ WS := WS_m1 (i := 45) rfl rfl
theorem kl_X2_19 : (Cond.classLink "HumpYard" (19 : Nat) "HumpYard$EventLog") ∈ WS := WS_m1 (i := 54) rfl rfl
theorem kt_X1 : (Cond.instantiable "HumpYard$EventLog" (2 : Nat)) ∈ WS := WS_m1 (i := 55) rfl rfl
theorem kn_X1_init : (Cond.instanceMethod ({ cls := "HumpYard$EventLog", name := "<init>", desc := "()V" } : MethodName)) ∈ WS := WS_m1 (i := 57) rfl rfl
theorem kc_X1_init : (Cond.code ({ cls := "HumpYard$EventLog", name := "<init>", desc := "()V" } : MethodName) prog_3_method_1_code (1 : Nat) (Option.none : Option ClassFile.FieldType)) ∈ WS := WS_m1 (i := 58) rfl rfl
theorem km_X1_3 : (Cond.methodLink "HumpYard$EventLog" (3 : Nat) ({ cls := "java/lang/Object", name := "<init>", desc := "()V" } : MethodName)) ∈ WS := WS_m1 (i := 59) rfl rfl
theorem kf_X1_9 : (Cond.fieldLink "HumpYard$EventLog" (9 : Nat) "HumpYard$EventLog" "rows" "[I") ∈ WS := WS_m1 (i := 60) rfl rfl
theorem kf_X1_15 : (Cond.fieldLink "HumpYard$EventLog" (15 : Nat) "HumpYard$EventLog" "count" "I") ∈ WS := WS_m1 (i := 61) rfl rfl
theorem kf_X2_140 : (Cond.fieldLink "HumpYard" (140 : Nat) "HumpYard$EventLog" "count" "I") ∈ WS := WS_m1 (i := 62) rfl rfl
theorem ka_int : (Cond.arrayClass ClassFile.FieldType.int) ∈ WS := WS_m1 (i := 68) rfl rfl
theorem kd_X2_70 : (Cond.constantDouble "HumpYard" (70 : Nat) (4611686018427387904 : UInt64)) ∈ WS := WS_m1 (i := 69) rfl rfl
theorem km_X2_72 : (Cond.methodLink "HumpYard" (72 : Nat) ({ cls := "java/util/Arrays", name := "fill", desc := "([DD)V" } : MethodName)) ∈ WS := WS_m1 (i := 70) rfl rfl
theorem ks_J7_fill_7f8df : (Cond.static ({ cls := "java/util/Arrays", name := "fill", desc := "([DD)V" } : MethodName)) ∈ WS := WS_m1 (i := 71) rfl rfl
theorem kc_J7_fill_7f8df : (Cond.code ({ cls := "java/util/Arrays", name := "fill", desc := "([DD)V" } : MethodName) prog_21_method_113_code (5 : Nat) (Option.none : Option ClassFile.FieldType)) ∈ WS := WS_m1 (i := 72) rfl rfl
theorem kd_X2_78 : (Cond.constantDouble "HumpYard" (78 : Nat) (4645744490609377280 : UInt64)) ∈ WS := WS_m1 (i := 73) rfl rfl
theorem kf_X2_10 : (Cond.fieldLink "HumpYard" (10 : Nat) "HumpYard" "cuts" "Ljava/util/ArrayList;") ∈ WS := WS_m1 (i := 74) rfl rfl
theorem kf_X2_16 : (Cond.fieldLink "HumpYard" (16 : Nat) "HumpYard" "rolling" "Ljava/util/ArrayList;") ∈ WS := WS_m1 (i := 75) rfl rfl
theorem kf_X2_22 : (Cond.fieldLink "HumpYard" (22 : Nat) "HumpYard" "events" "LHumpYard$EventLog;") ∈ WS := WS_m1 (i := 76) rfl rfl
theorem kf_X2_26 : (Cond.fieldLink "HumpYard" (26 : Nat) "HumpYard" "sides" "[I") ∈ WS := WS_m1 (i := 77) rfl rfl
theorem kf_X2_30 : (Cond.fieldLink "HumpYard" (30 : Nat) "HumpYard" "turning" "[I") ∈ WS := WS_m1 (i := 78) rfl rfl
theorem kf_X2_33 : (Cond.fieldLink "HumpYard" (33 : Nat) "HumpYard" "stuckPoints" "[Z") ∈ WS := WS_m1 (i := 79) rfl rfl
theorem kf_X2_37 : (Cond.fieldLink "HumpYard" (37 : Nat) "HumpYard" "wishes" "[D") ∈ WS := WS_m1 (i := 80) rfl rfl
theorem kf_X2_41 : (Cond.fieldLink "HumpYard" (41 : Nat) "HumpYard" "free" "[D") ∈ WS := WS_m1 (i := 81) rfl rfl
theorem kf_X2_44 : (Cond.fieldLink "HumpYard" (44 : Nat) "HumpYard" "ended" "[I") ∈ WS := WS_m1 (i := 82) rfl rfl
theorem kf_X2_47 : (Cond.fieldLink "HumpYard" (47 : Nat) "HumpYard" "sidings" "[I") ∈ WS := WS_m1 (i := 83) rfl rfl
theorem kf_X2_50 : (Cond.fieldLink "HumpYard" (50 : Nat) "HumpYard" "pushSpeed" "D") ∈ WS := WS_m1 (i := 84) rfl rfl
theorem kf_X2_54 : (Cond.fieldLink "HumpYard" (54 : Nat) "HumpYard" "topSpeed" "D") ∈ WS := WS_m1 (i := 85) rfl rfl
theorem kf_X2_57 : (Cond.fieldLink "HumpYard" (57 : Nat) "HumpYard" "started" "I") ∈ WS := WS_m1 (i := 86) rfl rfl
theorem kf_X2_61 : (Cond.fieldLink "HumpYard" (61 : Nat) "HumpYard" "landed" "I") ∈ WS := WS_m1 (i := 87) rfl rfl
theorem kf_X2_64 : (Cond.fieldLink "HumpYard" (64 : Nat) "HumpYard" "standing" "I") ∈ WS := WS_m1 (i := 88) rfl rfl
theorem kf_X2_67 : (Cond.fieldLink "HumpYard" (67 : Nat) "HumpYard" "ticks" "I") ∈ WS := WS_m1 (i := 89) rfl rfl
theorem ka_boolean : (Cond.arrayClass ClassFile.FieldType.boolean) ∈ WS := WS_m1 (i := 123) rfl rfl
theorem ka_double : (Cond.arrayClass ClassFile.FieldType.double) ∈ WS := WS_m1 (i := 124) rfl rfl
theorem km_L_119 : (Cond.methodLink "HumpYardLaw" (119 : Nat) ({ cls := "HumpYard", name := "fastest", desc := "()D" } : MethodName)) ∈ WS := WS_m1 (i := 125) rfl rfl
theorem kn_X2_fastest : (Cond.instanceMethod ({ cls := "HumpYard", name := "fastest", desc := "()D" } : MethodName)) ∈ WS := WS_m1 (i := 126) rfl rfl
theorem kv_X2_fastest : (Cond.selects "HumpYard" ({ cls := "HumpYard", name := "fastest", desc := "()D" } : MethodName) ({ cls := "HumpYard", name := "fastest", desc := "()D" } : MethodName)) ∈ WS := WS_m1 (i := 127) rfl rfl
theorem kc_X2_fastest : (Cond.code ({ cls := "HumpYard", name := "fastest", desc := "()D" } : MethodName) prog_1_method_15_code (1 : Nat) (Option.some ClassFile.FieldType.double)) ∈ WS := WS_m1 (i := 128) rfl rfl
theorem km_L_67 : (Cond.methodLink "HumpYardLaw" (67 : Nat) ({ cls := "HumpYardLaw", name := "cut", desc := "(LHumpYard;IIDI[J)I" } : MethodName)) ∈ WS := WS_m1 (i := 129) rfl rfl
theorem ks_L_cut : (Cond.static ({ cls := "HumpYardLaw", name := "cut", desc := "(LHumpYard;IIDI[J)I" } : MethodName)) ∈ WS := WS_m1 (i := 130) rfl rfl
theorem kc_L_cut : (Cond.codeWith ({ cls := "HumpYardLaw", name := "cut", desc := "(LHumpYard;IIDI[J)I" } : MethodName) method_3_code (8 : Nat) (Option.some ClassFile.FieldType.int) [((0 : Nat), (14 : Nat), (17 : Nat), (13 : Nat)), ((0 : Nat), (14 : Nat), (21 : Nat), (15 : Nat))]) ∈ WS := WS_m1 (i := 131) rfl rfl
theorem kl_L_13 : (Cond.classLink "HumpYardLaw" (13 : Nat) "java/lang/IllegalArgumentException") ∈ WS := WS_m1 (i := 132) rfl rfl
theorem kl_L_15 : (Cond.classLink "HumpYardLaw" (15 : Nat) "java/lang/UnsupportedOperationException") ∈ WS := WS_m1 (i := 133) rfl rfl
theorem km_L_7 : (Cond.methodLink "HumpYardLaw" (7 : Nat) ({ cls := "HumpYard", name := "cut", desc := "(IIDI)I" } : MethodName)) ∈ WS := WS_m1 (i := 134) rfl rfl
theorem kn_X2_cut : (Cond.instanceMethod ({ cls := "HumpYard", name := "cut", desc := "(IIDI)I" } : MethodName)) ∈ WS := WS_m1 (i := 135) rfl rfl
theorem kv_X2_cut : (Cond.selects "HumpYard" ({ cls := "HumpYard", name := "cut", desc := "(IIDI)I" } : MethodName) ({ cls := "HumpYard", name := "cut", desc := "(IIDI)I" } : MethodName)) ∈ WS := WS_m1 (i := 136) rfl rfl
theorem kc_X2_cut : (Cond.code ({ cls := "HumpYard", name := "cut", desc := "(IIDI)I" } : MethodName) prog_1_method_2_code (7 : Nat) (Option.some ClassFile.FieldType.int)) ∈ WS := WS_m1 (i := 137) rfl rfl
theorem kl_X2_80 : (Cond.classLink "HumpYard" (80 : Nat) "java/lang/IllegalArgumentException") ∈ WS := WS_m1 (i := 138) rfl rfl
theorem kt_java_lang_IllegalArgumentException : (Cond.instantiable "java/lang/IllegalArgumentException" (6 : Nat)) ∈ WS := WS_m1 (i := 139) rfl rfl
theorem kv_Throwable_fillInStackTrace_1897 : (Cond.selects "java/lang/IllegalArgumentException" ({ cls := "java/lang/Throwable", name := "fillInStackTrace", desc := "(I)Ljava/lang/Throwable;" } : MethodName) ({ cls := "java/lang/Throwable", name := "fillInStackTrace", desc := "(I)Ljava/lang/Throwable;" } : MethodName)) ∈ WS := WS_m1 (i := 147) rfl rfl
theorem kv_Throwable_fillInStackTrace_3fe7 : (Cond.selects "java/lang/IllegalArgumentException" ({ cls := "java/lang/Throwable", name := "fillInStackTrace", desc := "()Ljava/lang/Throwable;" } : MethodName) ({ cls := "java/lang/Throwable", name := "fillInStackTrace", desc := "()Ljava/lang/Throwable;" } : MethodName)) ∈ WS := WS_m1 (i := 148) rfl rfl
theorem kf_java_lang_Throwable_198 : (Cond.fieldLink "java/lang/Throwable" (198 : Nat) "java/lang/Throwable" "backtrace" "Ljava/lang/Object;") ∈ WS := WS_m1 (i := 159) rfl rfl
theorem kn_Throwable__init__f5ba : (Cond.instanceMethod ({ cls := "java/lang/Throwable", name := "<init>", desc := "()V" } : MethodName)) ∈ WS := WS_m1 (i := 161) rfl rfl
theorem kc_Throwable__init__f5ba : (Cond.code ({ cls := "java/lang/Throwable", name := "<init>", desc := "()V" } : MethodName) prog_16_method_1_code (1 : Nat) (Option.none : Option ClassFile.FieldType)) ∈ WS := WS_m1 (i := 162) rfl rfl
theorem km_java_lang_Throwable_1 : (Cond.methodLink "java/lang/Throwable" (1 : Nat) ({ cls := "java/lang/Object", name := "<init>", desc := "()V" } : MethodName)) ∈ WS := WS_m1 (i := 163) rfl rfl
theorem kf_java_lang_Throwable_13 : (Cond.fieldLink "java/lang/Throwable" (13 : Nat) "java/lang/Throwable" "UNASSIGNED_STACK" "[Ljava/lang/StackTraceElement;") ∈ WS := WS_m1 (i := 164) rfl rfl
theorem kf_java_lang_Throwable_20 : (Cond.fieldLink "java/lang/Throwable" (20 : Nat) "java/lang/Throwable" "SUPPRESSED_SENTINEL" "Ljava/util/List;") ∈ WS := WS_m1 (i := 166) rfl rfl
theorem km_java_lang_Throwable_27 : (Cond.methodLink "java/lang/Throwable" (27 : Nat) ({ cls := "java/lang/Throwable", name := "fillInStackTrace", desc := "()Ljava/lang/Throwable;" } : MethodName)) ∈ WS := WS_m1 (i := 168) rfl rfl
theorem kn_Throwable_fillInStackTrace_3fe7 : (Cond.instanceMethod ({ cls := "java/lang/Throwable", name := "fillInStackTrace", desc := "()Ljava/lang/Throwable;" } : MethodName)) ∈ WS := WS_m1 (i := 169) rfl rfl
theorem kv_Throwable_fillInStackTrace_3fe7_2 : (Cond.selects "java/lang/IndexOutOfBoundsException" ({ cls := "java/lang/Throwable", name := "fillInStackTrace", desc := "()Ljava/lang/Throwable;" } : MethodName) ({ cls := "java/lang/Throwable", name := "fillInStackTrace", desc := "()Ljava/lang/Throwable;" } : MethodName)) ∈ WS := WS_m1 (i := 171) rfl rfl
theorem kv_Throwable_fillInStackTrace_3fe7_3 : (Cond.selects "java/lang/UnsupportedOperationException" ({ cls := "java/lang/Throwable", name := "fillInStackTrace", desc := "()Ljava/lang/Throwable;" } : MethodName) ({ cls := "java/lang/Throwable", name := "fillInStackTrace", desc := "()Ljava/lang/Throwable;" } : MethodName)) ∈ WS := WS_m1 (i := 172) rfl rfl
theorem kc_Throwable_fillInStackTrace_3fe7 : (Cond.codeSync ({ cls := "java/lang/Throwable", name := "fillInStackTrace", desc := "()Ljava/lang/Throwable;" } : MethodName) prog_16_method_18_code (1 : Nat) (Option.some (ClassFile.FieldType.object "java/lang/Throwable"))) ∈ WS := WS_m1 (i := 173) rfl rfl
theorem km_java_lang_Throwable_202 : (Cond.methodLink "java/lang/Throwable" (202 : Nat) ({ cls := "java/lang/Throwable", name := "fillInStackTrace", desc := "(I)Ljava/lang/Throwable;" } : MethodName)) ∈ WS := WS_m1 (i := 174) rfl rfl
theorem kn_Throwable_fillInStackTrace_1897 : (Cond.instanceMethod ({ cls := "java/lang/Throwable", name := "fillInStackTrace", desc := "(I)Ljava/lang/Throwable;" } : MethodName)) ∈ WS := WS_m1 (i := 176) rfl rfl
theorem kt_java_lang_Throwable : (Cond.instantiable "java/lang/Throwable" (6 : Nat)) ∈ WS := WS_m1 (i := 177) rfl rfl
theorem km_X2_84 : (Cond.methodLink "HumpYard" (84 : Nat) ({ cls := "java/lang/IllegalArgumentException", name := "<init>", desc := "(Ljava/lang/String;)V" } : MethodName)) ∈ WS := WS_m1 (i := 180) rfl rfl
theorem kn_IllegalArgumentException__init__4fa9 : (Cond.instanceMethod ({ cls := "java/lang/IllegalArgumentException", name := "<init>", desc := "(Ljava/lang/String;)V" } : MethodName)) ∈ WS := WS_m1 (i := 181) rfl rfl
theorem kc_IllegalArgumentException__init__4fa9 : (Cond.code ({ cls := "java/lang/IllegalArgumentException", name := "<init>", desc := "(Ljava/lang/String;)V" } : MethodName) prog_9_method_2_code (2 : Nat) (Option.none : Option ClassFile.FieldType)) ∈ WS := WS_m1 (i := 182) rfl rfl
theorem km_java_lang_IllegalArgumentException_7 : (Cond.methodLink "java/lang/IllegalArgumentException" (7 : Nat) ({ cls := "java/lang/RuntimeException", name := "<init>", desc := "(Ljava/lang/String;)V" } : MethodName)) ∈ WS := WS_m1 (i := 183) rfl rfl
theorem kn_RuntimeException__init__54e8 : (Cond.instanceMethod ({ cls := "java/lang/RuntimeException", name := "<init>", desc := "(Ljava/lang/String;)V" } : MethodName)) ∈ WS := WS_m1 (i := 184) rfl rfl
theorem kc_RuntimeException__init__54e8 : (Cond.code ({ cls := "java/lang/RuntimeException", name := "<init>", desc := "(Ljava/lang/String;)V" } : MethodName) prog_13_method_2_code (2 : Nat) (Option.none : Option ClassFile.FieldType)) ∈ WS := WS_m1 (i := 185) rfl rfl
theorem km_java_lang_RuntimeException_7 : (Cond.methodLink "java/lang/RuntimeException" (7 : Nat) ({ cls := "java/lang/Exception", name := "<init>", desc := "(Ljava/lang/String;)V" } : MethodName)) ∈ WS := WS_m1 (i := 186) rfl rfl
theorem kn_Exception__init__2aaf : (Cond.instanceMethod ({ cls := "java/lang/Exception", name := "<init>", desc := "(Ljava/lang/String;)V" } : MethodName)) ∈ WS := WS_m1 (i := 187) rfl rfl
theorem kc_Exception__init__2aaf : (Cond.code ({ cls := "java/lang/Exception", name := "<init>", desc := "(Ljava/lang/String;)V" } : MethodName) prog_8_method_2_code (2 : Nat) (Option.none : Option ClassFile.FieldType)) ∈ WS := WS_m1 (i := 188) rfl rfl
theorem km_java_lang_Exception_7 : (Cond.methodLink "java/lang/Exception" (7 : Nat) ({ cls := "java/lang/Throwable", name := "<init>", desc := "(Ljava/lang/String;)V" } : MethodName)) ∈ WS := WS_m1 (i := 189) rfl rfl
theorem kn_Throwable__init__954d : (Cond.instanceMethod ({ cls := "java/lang/Throwable", name := "<init>", desc := "(Ljava/lang/String;)V" } : MethodName)) ∈ WS := WS_m1 (i := 190) rfl rfl
theorem kc_Throwable__init__954d : (Cond.code ({ cls := "java/lang/Throwable", name := "<init>", desc := "(Ljava/lang/String;)V" } : MethodName) prog_16_method_2_code (2 : Nat) (Option.none : Option ClassFile.FieldType)) ∈ WS := WS_m1 (i := 191) rfl rfl
theorem kf_java_lang_Throwable_198_2 : (Cond.fieldLink "java/lang/Throwable" (198 : Nat) "java/lang/Throwable" "backtrace" "Ljava/lang/Object;") ∈ WS := WS_m1 (i := 192) rfl rfl
theorem kf_java_lang_Throwable_31 : (Cond.fieldLink "java/lang/Throwable" (31 : Nat) "java/lang/Throwable" "detailMessage" "Ljava/lang/String;") ∈ WS := WS_m1 (i := 193) rfl rfl
theorem kf_java_lang_Throwable_7 : (Cond.fieldLink "java/lang/Throwable" (7 : Nat) "java/lang/Throwable" "cause" "Ljava/lang/Throwable;") ∈ WS := WS_m1 (i := 194) rfl rfl
theorem kf_java_lang_Throwable_17 : (Cond.fieldLink "java/lang/Throwable" (17 : Nat) "java/lang/Throwable" "stackTrace" "[Ljava/lang/StackTraceElement;") ∈ WS := WS_m1 (i := 195) rfl rfl
theorem kf_java_lang_Throwable_24 : (Cond.fieldLink "java/lang/Throwable" (24 : Nat) "java/lang/Throwable" "suppressedExceptions" "Ljava/util/List;") ∈ WS := WS_m1 (i := 196) rfl rfl
theorem ka_byte : (Cond.arrayClass ClassFile.FieldType.byte) ∈ WS := WS_m1 (i := 205) rfl rfl
theorem km_X2_89 : (Cond.methodLink "HumpYard" (89 : Nat) ({ cls := "HumpYard", name := "isWithin", desc := "(DI)Z" } : MethodName)) ∈ WS := WS_m1 (i := 207) rfl rfl
theorem ks_X2_isWithin : (Cond.static ({ cls := "HumpYard", name := "isWithin", desc := "(DI)Z" } : MethodName)) ∈ WS := WS_m1 (i := 208) rfl rfl
theorem kc_X2_isWithin : (Cond.code ({ cls := "HumpYard", name := "isWithin", desc := "(DI)Z" } : MethodName) prog_1_method_17_code (3 : Nat) (Option.some ClassFile.FieldType.boolean)) ∈ WS := WS_m1 (i := 209) rfl rfl
theorem km_X2_95 : (Cond.methodLink "HumpYard" (95 : Nat) ({ cls := "HumpYard", name := "isTrack", desc := "(I)Z" } : MethodName)) ∈ WS := WS_m1 (i := 211) rfl rfl
theorem ks_X2_isTrack : (Cond.static ({ cls := "HumpYard", name := "isTrack", desc := "(I)Z" } : MethodName)) ∈ WS := WS_m1 (i := 212) rfl rfl
theorem kc_X2_isTrack : (Cond.code ({ cls := "HumpYard", name := "isTrack", desc := "(I)Z" } : MethodName) prog_1_method_18_code (1 : Nat) (Option.some ClassFile.FieldType.boolean)) ∈ WS := WS_m1 (i := 213) rfl rfl
theorem km_X2_101 : (Cond.methodLink "HumpYard" (101 : Nat) ({ cls := "java/util/ArrayList", name := "size", desc := "()I" } : MethodName)) ∈ WS := WS_m1 (i := 215) rfl rfl
theorem kn_Jx4a65c_size_8abf5 : (Cond.instanceMethod ({ cls := "java/util/ArrayList", name := "size", desc := "()I" } : MethodName)) ∈ WS := WS_m1 (i := 216) rfl rfl
theorem kv_Jx4a65c_size_8abf5 : (Cond.selects "java/util/ArrayList" ({ cls := "java/util/ArrayList", name := "size", desc := "()I" } : MethodName) ({ cls := "java/util/ArrayList", name := "size", desc := "()I" } : MethodName)) ∈ WS := WS_m1 (i := 217) rfl rfl
theorem kc_Jx4a65c_size_8abf5 : (Cond.code ({ cls := "java/util/ArrayList", name := "size", desc := "()I" } : MethodName) prog_20_method_8_code (1 : Nat) (Option.some ClassFile.FieldType.int)) ∈ WS := WS_m1 (i := 218) rfl rfl
theorem kl_X2_105 : (Cond.classLink "HumpYard" (105 : Nat) "java/lang/UnsupportedOperationException") ∈ WS := WS_m1 (i := 219) rfl rfl
theorem kt_java_lang_UnsupportedOperationException : (Cond.instantiable "java/lang/UnsupportedOperationException" (6 : Nat)) ∈ WS := WS_m1 (i := 220) rfl rfl
theorem kv_Throwable_fillInStackTrace_1897_2 : (Cond.selects "java/lang/UnsupportedOperationException" ({ cls := "java/lang/Throwable", name := "fillInStackTrace", desc := "(I)Ljava/lang/Throwable;" } : MethodName) ({ cls := "java/lang/Throwable", name := "fillInStackTrace", desc := "(I)Ljava/lang/Throwable;" } : MethodName)) ∈ WS := WS_m1 (i := 222) rfl rfl
theorem km_X2_109 : (Cond.methodLink "HumpYard" (109 : Nat) ({ cls := "java/lang/UnsupportedOperationException", name := "<init>", desc := "(Ljava/lang/String;)V" } : MethodName)) ∈ WS := WS_m1 (i := 229) rfl rfl
theorem kn_UnsupportedOperationException__init__1ab6 : (Cond.instanceMethod ({ cls := "java/lang/UnsupportedOperationException", name := "<init>", desc := "(Ljava/lang/String;)V" } : MethodName)) ∈ WS := WS_m1 (i := 230) rfl rfl
theorem kc_UnsupportedOperationException__init__1ab6 : (Cond.code ({ cls := "java/lang/UnsupportedOperationException", name := "<init>", desc := "(Ljava/lang/String;)V" } : MethodName) prog_17_method_2_code (2 : Nat) (Option.none : Option ClassFile.FieldType)) ∈ WS := WS_m1 (i := 231) rfl rfl
theorem km_java_lang_UnsupportedOperationException_7 : (Cond.methodLink "java/lang/UnsupportedOperationException" (7 : Nat) ({ cls := "java/lang/RuntimeException", name := "<init>", desc := "(Ljava/lang/String;)V" } : MethodName)) ∈ WS := WS_m1 (i := 232) rfl rfl
theorem kl_X2_110 : (Cond.classLink "HumpYard" (110 : Nat) "HumpYard$Cut") ∈ WS := WS_m1 (i := 235) rfl rfl
theorem kt_X0 : (Cond.instantiable "HumpYard$Cut" (10 : Nat)) ∈ WS := WS_m1 (i := 236) rfl rfl
theorem km_X2_112 : (Cond.methodLink "HumpYard" (112 : Nat) ({ cls := "HumpYard$Cut", name := "<init>", desc := "(IIIDI)V" } : MethodName)) ∈ WS := WS_m1 (i := 237) rfl rfl
theorem kn_X0_init : (Cond.instanceMethod ({ cls := "HumpYard$Cut", name := "<init>", desc := "(IIIDI)V" } : MethodName)) ∈ WS := WS_m1 (i := 238) rfl rfl
theorem kc_X0_init : (Cond.code ({ cls := "HumpYard$Cut", name := "<init>", desc := "(IIIDI)V" } : MethodName) prog_2_method_1_code (7 : Nat) (Option.none : Option ClassFile.FieldType)) ∈ WS := WS_m1 (i := 239) rfl rfl
theorem km_X0_3 : (Cond.methodLink "HumpYard$Cut" (3 : Nat) ({ cls := "java/lang/Object", name := "<init>", desc := "()V" } : MethodName)) ∈ WS := WS_m2 (i := 0) rfl rfl
theorem kd_X0_31 : (Cond.constantDouble "HumpYard$Cut" (31 : Nat) (4623226492472524800 : UInt64)) ∈ WS := WS_m2 (i := 1) rfl rfl
theorem kf_X0_28 : (Cond.fieldLink "HumpYard$Cut" (28 : Nat) "HumpYard$Cut" "number" "I") ∈ WS := WS_m2 (i := 2) rfl rfl
theorem kf_X2_119 : (Cond.fieldLink "HumpYard" (119 : Nat) "HumpYard$Cut" "number" "I") ∈ WS := WS_m2 (i := 3) rfl rfl
theorem kf_X0_33 : (Cond.fieldLink "HumpYard$Cut" (33 : Nat) "HumpYard$Cut" "length" "D") ∈ WS := WS_m2 (i := 4) rfl rfl
theorem kf_X2_318 : (Cond.fieldLink "HumpYard" (318 : Nat) "HumpYard$Cut" "length" "D") ∈ WS := WS_m2 (i := 5) rfl rfl
theorem kf_X0_36 : (Cond.fieldLink "HumpYard$Cut" (36 : Nat) "HumpYard$Cut" "mass" "D") ∈ WS := WS_m2 (i := 6) rfl rfl
theorem kf_X2_303 : (Cond.fieldLink "HumpYard" (303 : Nat) "HumpYard$Cut" "mass" "D") ∈ WS := WS_m2 (i := 7) rfl rfl
theorem kf_X0_39 : (Cond.fieldLink "HumpYard$Cut" (39 : Nat) "HumpYard$Cut" "resistance" "D") ∈ WS := WS_m2 (i := 8) rfl rfl
theorem kf_X2_253 : (Cond.fieldLink "HumpYard" (253 : Nat) "HumpYard$Cut" "resistance" "D") ∈ WS := WS_m2 (i := 9) rfl rfl
theorem kf_X0_42 : (Cond.fieldLink "HumpYard$Cut" (42 : Nat) "HumpYard$Cut" "wishedNode" "I") ∈ WS := WS_m2 (i := 10) rfl rfl
theorem kf_X2_285 : (Cond.fieldLink "HumpYard" (285 : Nat) "HumpYard$Cut" "wishedNode" "I") ∈ WS := WS_m2 (i := 11) rfl rfl
theorem kf_X0_9 : (Cond.fieldLink "HumpYard$Cut" (9 : Nat) "HumpYard$Cut" "state" "I") ∈ WS := WS_m2 (i := 12) rfl rfl
theorem kf_X2_171 : (Cond.fieldLink "HumpYard" (171 : Nat) "HumpYard$Cut" "state" "I") ∈ WS := WS_m2 (i := 13) rfl rfl
theorem kf_X0_15 : (Cond.fieldLink "HumpYard$Cut" (15 : Nat) "HumpYard$Cut" "place" "D") ∈ WS := WS_m2 (i := 14) rfl rfl
theorem kf_X2_165 : (Cond.fieldLink "HumpYard" (165 : Nat) "HumpYard$Cut" "place" "D") ∈ WS := WS_m2 (i := 15) rfl rfl
theorem kf_X0_19 : (Cond.fieldLink "HumpYard$Cut" (19 : Nat) "HumpYard$Cut" "speed" "D") ∈ WS := WS_m2 (i := 16) rfl rfl
theorem kf_X2_168 : (Cond.fieldLink "HumpYard" (168 : Nat) "HumpYard$Cut" "speed" "D") ∈ WS := WS_m2 (i := 17) rfl rfl
theorem kf_X0_22 : (Cond.fieldLink "HumpYard$Cut" (22 : Nat) "HumpYard$Cut" "node" "I") ∈ WS := WS_m2 (i := 18) rfl rfl
theorem kf_X2_174 : (Cond.fieldLink "HumpYard" (174 : Nat) "HumpYard$Cut" "node" "I") ∈ WS := WS_m2 (i := 19) rfl rfl
theorem kf_X0_25 : (Cond.fieldLink "HumpYard$Cut" (25 : Nat) "HumpYard$Cut" "caughtBy" "I") ∈ WS := WS_m2 (i := 20) rfl rfl
theorem kf_X2_184 : (Cond.fieldLink "HumpYard" (184 : Nat) "HumpYard$Cut" "caughtBy" "I") ∈ WS := WS_m2 (i := 21) rfl rfl
theorem km_X2_115 : (Cond.methodLink "HumpYard" (115 : Nat) ({ cls := "java/util/ArrayList", name := "add", desc := "(Ljava/lang/Object;)Z" } : MethodName)) ∈ WS := WS_m2 (i := 43) rfl rfl
theorem kn_Jx4a65c_add_9ea2d : (Cond.instanceMethod ({ cls := "java/util/ArrayList", name := "add", desc := "(Ljava/lang/Object;)Z" } : MethodName)) ∈ WS := WS_m2 (i := 44) rfl rfl
theorem kv_Jx4a65c_add_9ea2d : (Cond.selects "java/util/ArrayList" ({ cls := "java/util/ArrayList", name := "add", desc := "(Ljava/lang/Object;)Z" } : MethodName) ({ cls := "java/util/ArrayList", name := "add", desc := "(Ljava/lang/Object;)Z" } : MethodName)) ∈ WS := WS_m2 (i := 45) rfl rfl
theorem kc_Jx4a65c_add_9ea2d : (Cond.code ({ cls := "java/util/ArrayList", name := "add", desc := "(Ljava/lang/Object;)Z" } : MethodName) prog_20_method_25_code (2 : Nat) (Option.some ClassFile.FieldType.boolean)) ∈ WS := WS_m2 (i := 46) rfl rfl
theorem km_Jx4a65c_131 : (Cond.methodLink "java/util/ArrayList" (131 : Nat) ({ cls := "java/util/ArrayList", name := "add", desc := "(Ljava/lang/Object;[Ljava/lang/Object;I)V" } : MethodName)) ∈ WS := WS_m2 (i := 47) rfl rfl
theorem kn_Jx4a65c_add_72be8 : (Cond.instanceMethod ({ cls := "java/util/ArrayList", name := "add", desc := "(Ljava/lang/Object;[Ljava/lang/Object;I)V" } : MethodName)) ∈ WS := WS_m2 (i := 49) rfl rfl
theorem kc_Jx4a65c_add_72be8 : (Cond.code ({ cls := "java/util/ArrayList", name := "add", desc := "(Ljava/lang/Object;[Ljava/lang/Object;I)V" } : MethodName) prog_20_method_24_code (4 : Nat) (Option.none : Option ClassFile.FieldType)) ∈ WS := WS_m2 (i := 50) rfl rfl
theorem km_Jx4a65c_129 : (Cond.methodLink "java/util/ArrayList" (129 : Nat) ({ cls := "java/util/ArrayList", name := "grow", desc := "()[Ljava/lang/Object;" } : MethodName)) ∈ WS := WS_m2 (i := 51) rfl rfl
theorem kn_Jx4a65c_grow_d5877 : (Cond.instanceMethod ({ cls := "java/util/ArrayList", name := "grow", desc := "()[Ljava/lang/Object;" } : MethodName)) ∈ WS := WS_m2 (i := 53) rfl rfl
theorem kc_Jx4a65c_grow_d5877 : (Cond.code ({ cls := "java/util/ArrayList", name := "grow", desc := "()[Ljava/lang/Object;" } : MethodName) prog_20_method_7_code (1 : Nat) (Option.some (ClassFile.FieldType.array (ClassFile.FieldType.object "java/lang/Object")))) ∈ WS := WS_m2 (i := 54) rfl rfl
theorem km_Jx4a65c_69 : (Cond.methodLink "java/util/ArrayList" (69 : Nat) ({ cls := "java/util/ArrayList", name := "grow", desc := "(I)[Ljava/lang/Object;" } : MethodName)) ∈ WS := WS_m2 (i := 55) rfl rfl
theorem kn_Jx4a65c_grow_92f84 : (Cond.instanceMethod ({ cls := "java/util/ArrayList", name := "grow", desc := "(I)[Ljava/lang/Object;" } : MethodName)) ∈ WS := WS_m2 (i := 57) rfl rfl
theorem kc_Jx4a65c_grow_92f84 : (Cond.code ({ cls := "java/util/ArrayList", name := "grow", desc := "(I)[Ljava/lang/Object;" } : MethodName) prog_20_method_6_code (4 : Nat) (Option.some (ClassFile.FieldType.array (ClassFile.FieldType.object "java/lang/Object")))) ∈ WS := WS_m2 (i := 58) rfl rfl
theorem km_Jx4a65c_73 : (Cond.methodLink "java/util/ArrayList" (73 : Nat) ({ cls := "jdk/internal/util/ArraysSupport", name := "newLength", desc := "(III)I" } : MethodName)) ∈ WS := WS_m2 (i := 59) rfl rfl
theorem ks_J8_newLength_cabcc : (Cond.static ({ cls := "jdk/internal/util/ArraysSupport", name := "newLength", desc := "(III)I" } : MethodName)) ∈ WS := WS_m2 (i := 60) rfl rfl
theorem kc_J8_newLength_cabcc : (Cond.code ({ cls := "jdk/internal/util/ArraysSupport", name := "newLength", desc := "(III)I" } : MethodName) prog_27_method_27_code (4 : Nat) (Option.some ClassFile.FieldType.int)) ∈ WS := WS_m2 (i := 61) rfl rfl
theorem km_J8_194 : (Cond.methodLink "jdk/internal/util/ArraysSupport" (194 : Nat) ({ cls := "java/lang/Math", name := "max", desc := "(II)I" } : MethodName)) ∈ WS := WS_m2 (i := 62) rfl rfl
theorem ks_J9_max_7cf53 : (Cond.static ({ cls := "java/lang/Math", name := "max", desc := "(II)I" } : MethodName)) ∈ WS := WS_m2 (i := 63) rfl rfl
theorem kc_J9_max_7cf53 : (Cond.code ({ cls := "java/lang/Math", name := "max", desc := "(II)I" } : MethodName) prog_12_method_65_code (2 : Nat) (Option.some ClassFile.FieldType.int)) ∈ WS := WS_m2 (i := 64) rfl rfl
theorem kd_J8_200 : (Cond.constant "jdk/internal/util/ArraysSupport" (200 : Nat) (2147483639 : Int32)) ∈ WS := WS_m2 (i := 65) rfl rfl
theorem km_J8_201 : (Cond.methodLink "jdk/internal/util/ArraysSupport" (201 : Nat) ({ cls := "jdk/internal/util/ArraysSupport", name := "hugeLength", desc := "(II)I" } : MethodName)) ∈ WS := WS_m2 (i := 66) rfl rfl
theorem ks_J8_hugeLength_7cf53 : (Cond.static ({ cls := "jdk/internal/util/ArraysSupport", name := "hugeLength", desc := "(II)I" } : MethodName)) ∈ WS := WS_m2 (i := 67) rfl rfl
theorem kc_J8_hugeLength_7cf53 : (Cond.code ({ cls := "jdk/internal/util/ArraysSupport", name := "hugeLength", desc := "(II)I" } : MethodName) prog_27_method_28_code (3 : Nat) (Option.some ClassFile.FieldType.int)) ∈ WS := WS_m2 (i := 68) rfl rfl
theorem km_Jx4a65c_66 : (Cond.methodLink "java/util/ArrayList" (66 : Nat) ({ cls := "java/util/Arrays", name := "copyOf", desc := "([Ljava/lang/Object;I)[Ljava/lang/Object;" } : MethodName)) ∈ WS := WS_m2 (i := 69) rfl rfl
theorem ks_J7_copyOf_1904c : (Cond.static ({ cls := "java/util/Arrays", name := "copyOf", desc := "([Ljava/lang/Object;I)[Ljava/lang/Object;" } : MethodName)) ∈ WS := WS_m2 (i := 70) rfl rfl
theorem kc_J7_copyOf_1904c : (Cond.code ({ cls := "java/util/Arrays", name := "copyOf", desc := "([Ljava/lang/Object;I)[Ljava/lang/Object;" } : MethodName) prog_21_method_119_code (2 : Nat) (Option.some (ClassFile.FieldType.array (ClassFile.FieldType.object "java/lang/Object")))) ∈ WS := WS_m2 (i := 71) rfl rfl
theorem km_J7_86 : (Cond.methodLink "java/util/Arrays" (86 : Nat) ({ cls := "java/lang/Object", name := "getClass", desc := "()Ljava/lang/Class;" } : MethodName)) ∈ WS := WS_m2 (i := 72) rfl rfl
theorem kn_Object_getClass_42d1 : (Cond.instanceMethod ({ cls := "java/lang/Object", name := "getClass", desc := "()Ljava/lang/Class;" } : MethodName)) ∈ WS := WS_m2 (i := 73) rfl rfl
theorem kv_Object_getClass_42d1 : (Cond.selects "HumpYard" ({ cls := "java/lang/Object", name := "getClass", desc := "()Ljava/lang/Class;" } : MethodName) ({ cls := "java/lang/Object", name := "getClass", desc := "()Ljava/lang/Class;" } : MethodName)) ∈ WS := WS_m2 (i := 75) rfl rfl
theorem kv_Object_getClass_42d1_2 : (Cond.selects "HumpYard$Cut" ({ cls := "java/lang/Object", name := "getClass", desc := "()Ljava/lang/Class;" } : MethodName) ({ cls := "java/lang/Object", name := "getClass", desc := "()Ljava/lang/Class;" } : MethodName)) ∈ WS := WS_m2 (i := 76) rfl rfl
theorem kv_Object_getClass_42d1_3 : (Cond.selects "HumpYard$EventLog" ({ cls := "java/lang/Object", name := "getClass", desc := "()Ljava/lang/Class;" } : MethodName) ({ cls := "java/lang/Object", name := "getClass", desc := "()Ljava/lang/Class;" } : MethodName)) ∈ WS := WS_m2 (i := 77) rfl rfl
theorem kv_Object_getClass_42d1_4 : (Cond.selects "HumpYardModel" ({ cls := "java/lang/Object", name := "getClass", desc := "()Ljava/lang/Class;" } : MethodName) ({ cls := "java/lang/Object", name := "getClass", desc := "()Ljava/lang/Class;" } : MethodName)) ∈ WS := WS_m2 (i := 78) rfl rfl
theorem kv_Object_getClass_42d1_5 : (Cond.selects "java/lang/IllegalArgumentException" ({ cls := "java/lang/Object", name := "getClass", desc := "()Ljava/lang/Class;" } : MethodName) ({ cls := "java/lang/Object", name := "getClass", desc := "()Ljava/lang/Class;" } : MethodName)) ∈ WS := WS_m2 (i := 79) rfl rfl
theorem kv_Object_getClass_42d1_6 : (Cond.selects "java/lang/IndexOutOfBoundsException" ({ cls := "java/lang/Object", name := "getClass", desc := "()Ljava/lang/Class;" } : MethodName) ({ cls := "java/lang/Object", name := "getClass", desc := "()Ljava/lang/Class;" } : MethodName)) ∈ WS := WS_m2 (i := 80) rfl rfl
theorem kv_Object_getClass_42d1_7 : (Cond.selects "java/lang/UnsupportedOperationException" ({ cls := "java/lang/Object", name := "getClass", desc := "()Ljava/lang/Class;" } : MethodName) ({ cls := "java/lang/Object", name := "getClass", desc := "()Ljava/lang/Class;" } : MethodName)) ∈ WS := WS_m2 (i := 81) rfl rfl
theorem kv_Object_getClass_42d1_8 : (Cond.selects "java/util/ArrayList" ({ cls := "java/lang/Object", name := "getClass", desc := "()Ljava/lang/Class;" } : MethodName) ({ cls := "java/lang/Object", name := "getClass", desc := "()Ljava/lang/Class;" } : MethodName)) ∈ WS := WS_m2 (i := 82) rfl rfl
theorem km_J7_300 : (Cond.methodLink "java/util/Arrays" (300 : Nat) ({ cls := "java/util/Arrays", name := "copyOf", desc := "([Ljava/lang/Object;ILjava/lang/Class;)[Ljava/lang/Object;" } : MethodName)) ∈ WS := WS_m2 (i := 84) rfl rfl
theorem ks_J7_copyOf_6403c : (Cond.static ({ cls := "java/util/Arrays", name := "copyOf", desc := "([Ljava/lang/Object;ILjava/lang/Class;)[Ljava/lang/Object;" } : MethodName)) ∈ WS := WS_m2 (i := 85) rfl rfl
theorem kc_J7_copyOf_6403c : (Cond.code ({ cls := "java/util/Arrays", name := "copyOf", desc := "([Ljava/lang/Object;ILjava/lang/Class;)[Ljava/lang/Object;" } : MethodName) prog_21_method_120_code (4 : Nat) (Option.some (ClassFile.FieldType.array (ClassFile.FieldType.object "java/lang/Object")))) ∈ WS := WS_m2 (i := 86) rfl rfl
theorem kl_J7_110 : (Cond.classLink "java/util/Arrays" (110 : Nat) "[Ljava/lang/Object;") ∈ WS := WS_m2 (i := 87) rfl rfl
theorem kl_J7_2 : (Cond.classLink "java/util/Arrays" (2 : Nat) "java/lang/Object") ∈ WS := WS_m2 (i := 89) rfl rfl
theorem km_J7_304 : (Cond.methodLink "java/util/Arrays" (304 : Nat) ({ cls := "java/lang/Math", name := "min", desc := "(II)I" } : MethodName)) ∈ WS := WS_m2 (i := 90) rfl rfl
theorem ks_J9_min_7cf53 : (Cond.static ({ cls := "java/lang/Math", name := "min", desc := "(II)I" } : MethodName)) ∈ WS := WS_m2 (i := 91) rfl rfl
theorem kc_J9_min_7cf53 : (Cond.code ({ cls := "java/lang/Math", name := "min", desc := "(II)I" } : MethodName) prog_12_method_69_code (2 : Nat) (Option.some ClassFile.FieldType.int)) ∈ WS := WS_m2 (i := 92) rfl rfl
theorem km_J7_150 : (Cond.methodLink "java/util/Arrays" (150 : Nat) ({ cls := "java/lang/System", name := "arraycopy", desc := "(Ljava/lang/Object;ILjava/lang/Object;II)V" } : MethodName)) ∈ WS := WS_m2 (i := 93) rfl rfl
theorem ks_System_arraycopy_c958 : (Cond.static ({ cls := "java/lang/System", name := "arraycopy", desc := "(Ljava/lang/Object;ILjava/lang/Object;II)V" } : MethodName)) ∈ WS := WS_m2 (i := 94) rfl rfl
theorem km_Jx4a65c_79 : (Cond.methodLink "java/util/ArrayList" (79 : Nat) ({ cls := "java/lang/Math", name := "max", desc := "(II)I" } : MethodName)) ∈ WS := WS_m2 (i := 96) rfl rfl
theorem kl_Jx4a65c_7 : (Cond.classLink "java/util/ArrayList" (7 : Nat) "java/lang/Object") ∈ WS := WS_m2 (i := 97) rfl rfl
theorem km_L_77 : (Cond.methodLink "HumpYardLaw" (77 : Nat) ({ cls := "HumpYardLaw", name := "push", desc := "(LHumpYard;D[D)I" } : MethodName)) ∈ WS := WS_m2 (i := 98) rfl rfl
theorem ks_L_push : (Cond.static ({ cls := "HumpYardLaw", name := "push", desc := "(LHumpYard;D[D)I" } : MethodName)) ∈ WS := WS_m2 (i := 99) rfl rfl
theorem kc_L_push : (Cond.codeWith ({ cls := "HumpYardLaw", name := "push", desc := "(LHumpYard;D[D)I" } : MethodName) method_4_code (5 : Nat) (Option.some ClassFile.FieldType.int) [((0 : Nat), (8 : Nat), (11 : Nat), (13 : Nat))]) ∈ WS := WS_m2 (i := 100) rfl rfl
theorem km_L_17 : (Cond.methodLink "HumpYardLaw" (17 : Nat) ({ cls := "HumpYard", name := "push", desc := "(D)D" } : MethodName)) ∈ WS := WS_m2 (i := 101) rfl rfl
theorem kn_X2_push : (Cond.instanceMethod ({ cls := "HumpYard", name := "push", desc := "(D)D" } : MethodName)) ∈ WS := WS_m2 (i := 102) rfl rfl
theorem kv_X2_push : (Cond.selects "HumpYard" ({ cls := "HumpYard", name := "push", desc := "(D)D" } : MethodName) ({ cls := "HumpYard", name := "push", desc := "(D)D" } : MethodName)) ∈ WS := WS_m2 (i := 103) rfl rfl
theorem kc_X2_push : (Cond.code ({ cls := "HumpYard", name := "push", desc := "(D)D" } : MethodName) prog_1_method_3_code (5 : Nat) (Option.some ClassFile.FieldType.double)) ∈ WS := WS_m2 (i := 104) rfl rfl
theorem km_L_81 : (Cond.methodLink "HumpYardLaw" (81 : Nat) ({ cls := "HumpYardLaw", name := "wish", desc := "(LHumpYard;ID[D)I" } : MethodName)) ∈ WS := WS_m2 (i := 106) rfl rfl
theorem ks_L_wish : (Cond.static ({ cls := "HumpYardLaw", name := "wish", desc := "(LHumpYard;ID[D)I" } : MethodName)) ∈ WS := WS_m2 (i := 107) rfl rfl
theorem kc_L_wish : (Cond.codeWith ({ cls := "HumpYardLaw", name := "wish", desc := "(LHumpYard;ID[D)I" } : MethodName) method_5_code (6 : Nat) (Option.some ClassFile.FieldType.int) [((0 : Nat), (10 : Nat), (13 : Nat), (25 : Nat)), ((0 : Nat), (10 : Nat), (17 : Nat), (13 : Nat))]) ∈ WS := WS_m2 (i := 108) rfl rfl
theorem kl_L_25 : (Cond.classLink "HumpYardLaw" (25 : Nat) "java/lang/IndexOutOfBoundsException") ∈ WS := WS_m2 (i := 109) rfl rfl
theorem km_L_21 : (Cond.methodLink "HumpYardLaw" (21 : Nat) ({ cls := "HumpYard", name := "wish", desc := "(ID)D" } : MethodName)) ∈ WS := WS_m2 (i := 110) rfl rfl
theorem kn_X2_wish : (Cond.instanceMethod ({ cls := "HumpYard", name := "wish", desc := "(ID)D" } : MethodName)) ∈ WS := WS_m2 (i := 111) rfl rfl
theorem kv_X2_wish : (Cond.selects "HumpYard" ({ cls := "HumpYard", name := "wish", desc := "(ID)D" } : MethodName) ({ cls := "HumpYard", name := "wish", desc := "(ID)D" } : MethodName)) ∈ WS := WS_m2 (i := 112) rfl rfl
theorem kc_X2_wish : (Cond.code ({ cls := "HumpYard", name := "wish", desc := "(ID)D" } : MethodName) prog_1_method_4_code (6 : Nat) (Option.some ClassFile.FieldType.double)) ∈ WS := WS_m2 (i := 113) rfl rfl
theorem kl_X2_124 : (Cond.classLink "HumpYard" (124 : Nat) "java/lang/IndexOutOfBoundsException") ∈ WS := WS_m2 (i := 114) rfl rfl
theorem kt_java_lang_IndexOutOfBoundsException : (Cond.instantiable "java/lang/IndexOutOfBoundsException" (6 : Nat)) ∈ WS := WS_m2 (i := 115) rfl rfl
theorem kv_Throwable_fillInStackTrace_1897_3 : (Cond.selects "java/lang/IndexOutOfBoundsException" ({ cls := "java/lang/Throwable", name := "fillInStackTrace", desc := "(I)Ljava/lang/Throwable;" } : MethodName) ({ cls := "java/lang/Throwable", name := "fillInStackTrace", desc := "(I)Ljava/lang/Throwable;" } : MethodName)) ∈ WS := WS_m2 (i := 117) rfl rfl
theorem km_X2_128 : (Cond.methodLink "HumpYard" (128 : Nat) ({ cls := "java/lang/IndexOutOfBoundsException", name := "<init>", desc := "(Ljava/lang/String;)V" } : MethodName)) ∈ WS := WS_m2 (i := 124) rfl rfl
theorem kn_IndexOutOfBoundsException__init__ddc4 : (Cond.instanceMethod ({ cls := "java/lang/IndexOutOfBoundsException", name := "<init>", desc := "(Ljava/lang/String;)V" } : MethodName)) ∈ WS := WS_m2 (i := 125) rfl rfl
theorem kc_IndexOutOfBoundsException__init__ddc4 : (Cond.code ({ cls := "java/lang/IndexOutOfBoundsException", name := "<init>", desc := "(Ljava/lang/String;)V" } : MethodName) prog_10_method_2_code (2 : Nat) (Option.none : Option ClassFile.FieldType)) ∈ WS := WS_m2 (i := 126) rfl rfl
theorem km_java_lang_IndexOutOfBoundsException_7 : (Cond.methodLink "java/lang/IndexOutOfBoundsException" (7 : Nat) ({ cls := "java/lang/RuntimeException", name := "<init>", desc := "(Ljava/lang/String;)V" } : MethodName)) ∈ WS := WS_m2 (i := 127) rfl rfl
theorem km_L_85 : (Cond.methodLink "HumpYardLaw" (85 : Nat) ({ cls := "HumpYardLaw", name := "stick", desc := "(LHumpYard;IZ[J)I" } : MethodName)) ∈ WS := WS_m2 (i := 131) rfl rfl
theorem ks_L_stick : (Cond.static ({ cls := "HumpYardLaw", name := "stick", desc := "(LHumpYard;IZ[J)I" } : MethodName)) ∈ WS := WS_m2 (i := 132) rfl rfl
theorem kc_L_stick : (Cond.codeWith ({ cls := "HumpYardLaw", name := "stick", desc := "(LHumpYard;IZ[J)I" } : MethodName) method_6_code (5 : Nat) (Option.some ClassFile.FieldType.int) [((0 : Nat), (17 : Nat), (20 : Nat), (25 : Nat))]) ∈ WS := WS_m2 (i := 133) rfl rfl
theorem km_L_27 : (Cond.methodLink "HumpYardLaw" (27 : Nat) ({ cls := "HumpYard", name := "stick", desc := "(IZ)Z" } : MethodName)) ∈ WS := WS_m2 (i := 134) rfl rfl
theorem kn_X2_stick : (Cond.instanceMethod ({ cls := "HumpYard", name := "stick", desc := "(IZ)Z" } : MethodName)) ∈ WS := WS_m2 (i := 135) rfl rfl
theorem kv_X2_stick : (Cond.selects "HumpYard" ({ cls := "HumpYard", name := "stick", desc := "(IZ)Z" } : MethodName) ({ cls := "HumpYard", name := "stick", desc := "(IZ)Z" } : MethodName)) ∈ WS := WS_m2 (i := 136) rfl rfl
theorem kc_X2_stick : (Cond.code ({ cls := "HumpYard", name := "stick", desc := "(IZ)Z" } : MethodName) prog_1_method_5_code (4 : Nat) (Option.some ClassFile.FieldType.boolean)) ∈ WS := WS_m2 (i := 137) rfl rfl
theorem km_X2_131 : (Cond.methodLink "HumpYard" (131 : Nat) ({ cls := "HumpYard", name := "isPoint", desc := "(I)Z" } : MethodName)) ∈ WS := WS_m2 (i := 138) rfl rfl
theorem ks_X2_isPoint : (Cond.static ({ cls := "HumpYard", name := "isPoint", desc := "(I)Z" } : MethodName)) ∈ WS := WS_m2 (i := 139) rfl rfl
theorem kc_X2_isPoint : (Cond.code ({ cls := "HumpYard", name := "isPoint", desc := "(I)Z" } : MethodName) prog_1_method_19_code (1 : Nat) (Option.some ClassFile.FieldType.boolean)) ∈ WS := WS_m2 (i := 140) rfl rfl
theorem km_L_89 : (Cond.methodLink "HumpYardLaw" (89 : Nat) ({ cls := "HumpYardLaw", name := "fill", desc := "(LHumpYard;ID[D)I" } : MethodName)) ∈ WS := WS_m2 (i := 142) rfl rfl
theorem ks_L_fill : (Cond.static ({ cls := "HumpYardLaw", name := "fill", desc := "(LHumpYard;ID[D)I" } : MethodName)) ∈ WS := WS_m2 (i := 143) rfl rfl
theorem kc_L_fill : (Cond.codeWith ({ cls := "HumpYardLaw", name := "fill", desc := "(LHumpYard;ID[D)I" } : MethodName) method_7_code (6 : Nat) (Option.some ClassFile.FieldType.int) [((0 : Nat), (10 : Nat), (13 : Nat), (25 : Nat)), ((0 : Nat), (10 : Nat), (17 : Nat), (13 : Nat))]) ∈ WS := WS_m2 (i := 144) rfl rfl
theorem km_L_31 : (Cond.methodLink "HumpYardLaw" (31 : Nat) ({ cls := "HumpYard", name := "fill", desc := "(ID)D" } : MethodName)) ∈ WS := WS_m2 (i := 145) rfl rfl
theorem kn_X2_fill : (Cond.instanceMethod ({ cls := "HumpYard", name := "fill", desc := "(ID)D" } : MethodName)) ∈ WS := WS_m2 (i := 146) rfl rfl
theorem kv_X2_fill : (Cond.selects "HumpYard" ({ cls := "HumpYard", name := "fill", desc := "(ID)D" } : MethodName) ({ cls := "HumpYard", name := "fill", desc := "(ID)D" } : MethodName)) ∈ WS := WS_m2 (i := 147) rfl rfl
theorem kc_X2_fill : (Cond.code ({ cls := "HumpYard", name := "fill", desc := "(ID)D" } : MethodName) prog_1_method_6_code (6 : Nat) (Option.some ClassFile.FieldType.double)) ∈ WS := WS_m2 (i := 148) rfl rfl
theorem km_L_92 : (Cond.methodLink "HumpYardLaw" (92 : Nat) ({ cls := "HumpYardLaw", name := "tick", desc := "(LHumpYard;I[J)I" } : MethodName)) ∈ WS := WS_m2 (i := 150) rfl rfl
theorem ks_L_tick : (Cond.static ({ cls := "HumpYardLaw", name := "tick", desc := "(LHumpYard;I[J)I" } : MethodName)) ∈ WS := WS_m2 (i := 151) rfl rfl
theorem kc_L_tick : (Cond.codeWith ({ cls := "HumpYardLaw", name := "tick", desc := "(LHumpYard;I[J)I" } : MethodName) method_8_code (4 : Nat) (Option.some ClassFile.FieldType.int) [((0 : Nat), (9 : Nat), (12 : Nat), (13 : Nat))]) ∈ WS := WS_m2 (i := 152) rfl rfl
theorem km_L_34 : (Cond.methodLink "HumpYardLaw" (34 : Nat) ({ cls := "HumpYard", name := "tick", desc := "(I)I" } : MethodName)) ∈ WS := WS_m2 (i := 153) rfl rfl
theorem kn_X2_tick : (Cond.instanceMethod ({ cls := "HumpYard", name := "tick", desc := "(I)I" } : MethodName)) ∈ WS := WS_m2 (i := 154) rfl rfl
theorem kv_X2_tick : (Cond.selects "HumpYard" ({ cls := "HumpYard", name := "tick", desc := "(I)I" } : MethodName) ({ cls := "HumpYard", name := "tick", desc := "(I)I" } : MethodName)) ∈ WS := WS_m2 (i := 155) rfl rfl
theorem kc_X2_tick : (Cond.code ({ cls := "HumpYard", name := "tick", desc := "(I)I" } : MethodName) prog_1_method_7_code (4 : Nat) (Option.some ClassFile.FieldType.int)) ∈ WS := WS_m2 (i := 156) rfl rfl
theorem km_X2_143 : (Cond.methodLink "HumpYard" (143 : Nat) ({ cls := "HumpYard", name := "goOnTurning", desc := "()V" } : MethodName)) ∈ WS := WS_m2 (i := 158) rfl rfl
theorem kn_X2_goOnTurning : (Cond.instanceMethod ({ cls := "HumpYard", name := "goOnTurning", desc := "()V" } : MethodName)) ∈ WS := WS_m2 (i := 160) rfl rfl
theorem kc_X2_goOnTurning : (Cond.code ({ cls := "HumpYard", name := "goOnTurning", desc := "()V" } : MethodName) prog_1_method_26_code (2 : Nat) (Option.none : Option ClassFile.FieldType)) ∈ WS := WS_m2 (i := 161) rfl rfl
theorem km_X2_146 : (Cond.methodLink "HumpYard" (146 : Nat) ({ cls := "HumpYard", name := "beginTurning", desc := "()V" } : MethodName)) ∈ WS := WS_m2 (i := 162) rfl rfl
theorem kn_X2_beginTurning : (Cond.instanceMethod ({ cls := "HumpYard", name := "beginTurning", desc := "()V" } : MethodName)) ∈ WS := WS_m2 (i := 164) rfl rfl
theorem kc_X2_beginTurning : (Cond.code ({ cls := "HumpYard", name := "beginTurning", desc := "()V" } : MethodName) prog_1_method_27_code (3 : Nat) (Option.none : Option ClassFile.FieldType)) ∈ WS := WS_m2 (i := 165) rfl rfl
theorem km_X2_189 : (Cond.methodLink "HumpYard" (189 : Nat) ({ cls := "HumpYard", name := "isBusy", desc := "(I)Z" } : MethodName)) ∈ WS := WS_m2 (i := 166) rfl rfl
theorem kn_X2_isBusy : (Cond.instanceMethod ({ cls := "HumpYard", name := "isBusy", desc := "(I)Z" } : MethodName)) ∈ WS := WS_m2 (i := 168) rfl rfl
theorem kc_X2_isBusy : (Cond.code ({ cls := "HumpYard", name := "isBusy", desc := "(I)Z" } : MethodName) prog_1_method_28_code (5 : Nat) (Option.some ClassFile.FieldType.boolean)) ∈ WS := WS_m2 (i := 169) rfl rfl
theorem km_X2_222 : (Cond.methodLink "HumpYard" (222 : Nat) ({ cls := "HumpYard", name := "pointPlace", desc := "(I)I" } : MethodName)) ∈ WS := WS_m2 (i := 170) rfl rfl
theorem ks_X2_pointPlace : (Cond.static ({ cls := "HumpYard", name := "pointPlace", desc := "(I)I" } : MethodName)) ∈ WS := WS_m2 (i := 171) rfl rfl
theorem kc_X2_pointPlace : (Cond.code ({ cls := "HumpYard", name := "pointPlace", desc := "(I)I" } : MethodName) prog_1_method_23_code (1 : Nat) (Option.some ClassFile.FieldType.int)) ∈ WS := WS_m2 (i := 172) rfl rfl
theorem km_X2_181 : (Cond.methodLink "HumpYard" (181 : Nat) ({ cls := "HumpYard", name := "levelOf", desc := "(I)I" } : MethodName)) ∈ WS := WS_m2 (i := 173) rfl rfl
theorem ks_X2_levelOf : (Cond.static ({ cls := "HumpYard", name := "levelOf", desc := "(I)I" } : MethodName)) ∈ WS := WS_m2 (i := 174) rfl rfl
theorem kc_X2_levelOf : (Cond.code ({ cls := "HumpYard", name := "levelOf", desc := "(I)I" } : MethodName) prog_1_method_22_code (1 : Nat) (Option.some ClassFile.FieldType.int)) ∈ WS := WS_m2 (i := 175) rfl rfl
theorem km_X2_208 : (Cond.methodLink "HumpYard" (208 : Nat) ({ cls := "java/util/ArrayList", name := "get", desc := "(I)Ljava/lang/Object;" } : MethodName)) ∈ WS := WS_m2 (i := 176) rfl rfl
theorem kn_Jx4a65c_get_915e3 : (Cond.instanceMethod ({ cls := "java/util/ArrayList", name := "get", desc := "(I)Ljava/lang/Object;" } : MethodName)) ∈ WS := WS_m2 (i := 177) rfl rfl
theorem kv_Jx4a65c_get_915e3 : (Cond.selects "java/util/ArrayList" ({ cls := "java/util/ArrayList", name := "get", desc := "(I)Ljava/lang/Object;" } : MethodName) ({ cls := "java/util/ArrayList", name := "get", desc := "(I)Ljava/lang/Object;" } : MethodName)) ∈ WS := WS_m2 (i := 178) rfl rfl
theorem kc_Jx4a65c_get_915e3 : (Cond.code ({ cls := "java/util/ArrayList", name := "get", desc := "(I)Ljava/lang/Object;" } : MethodName) prog_20_method_20_code (2 : Nat) (Option.some (ClassFile.FieldType.object "java/lang/Object"))) ∈ WS := WS_m2 (i := 179) rfl rfl
theorem km_Jx4a65c_118 : (Cond.methodLink "java/util/ArrayList" (118 : Nat) ({ cls := "java/util/Objects", name := "checkIndex", desc := "(II)I" } : MethodName)) ∈ WS := WS_m2 (i := 180) rfl rfl
theorem ks_J15_checkIndex_7cf53 : (Cond.static ({ cls := "java/util/Objects", name := "checkIndex", desc := "(II)I" } : MethodName)) ∈ WS := WS_m2 (i := 181) rfl rfl
theorem kc_J15_checkIndex_7cf53 : (Cond.code ({ cls := "java/util/Objects", name := "checkIndex", desc := "(II)I" } : MethodName) prog_24_method_17_code (2 : Nat) (Option.some ClassFile.FieldType.int)) ∈ WS := WS_m2 (i := 182) rfl rfl
theorem km_J15_105 : (Cond.methodLink "java/util/Objects" (105 : Nat) ({ cls := "jdk/internal/util/Preconditions", name := "checkIndex", desc := "(IILjava/util/function/BiFunction;)I" } : MethodName)) ∈ WS := WS_m2 (i := 183) rfl rfl
theorem ks_J3_checkIndex_8e157 : (Cond.static ({ cls := "jdk/internal/util/Preconditions", name := "checkIndex", desc := "(IILjava/util/function/BiFunction;)I" } : MethodName)) ∈ WS := WS_m2 (i := 184) rfl rfl
theorem kc_J3_checkIndex_8e157 : (Cond.code ({ cls := "jdk/internal/util/Preconditions", name := "checkIndex", desc := "(IILjava/util/function/BiFunction;)I" } : MethodName) prog_28_method_11_code (3 : Nat) (Option.some ClassFile.FieldType.int)) ∈ WS := WS_m2 (i := 185) rfl rfl
theorem km_Jx4a65c_123 : (Cond.methodLink "java/util/ArrayList" (123 : Nat) ({ cls := "java/util/ArrayList", name := "elementData", desc := "(I)Ljava/lang/Object;" } : MethodName)) ∈ WS := WS_m2 (i := 186) rfl rfl
theorem kn_Jx4a65c_elementData_915e3 : (Cond.instanceMethod ({ cls := "java/util/ArrayList", name := "elementData", desc := "(I)Ljava/lang/Object;" } : MethodName)) ∈ WS := WS_m2 (i := 187) rfl rfl
theorem kv_Jx4a65c_elementData_915e3 : (Cond.selects "java/util/ArrayList" ({ cls := "java/util/ArrayList", name := "elementData", desc := "(I)Ljava/lang/Object;" } : MethodName) ({ cls := "java/util/ArrayList", name := "elementData", desc := "(I)Ljava/lang/Object;" } : MethodName)) ∈ WS := WS_m2 (i := 188) rfl rfl
theorem kc_Jx4a65c_elementData_915e3 : (Cond.code ({ cls := "java/util/ArrayList", name := "elementData", desc := "(I)Ljava/lang/Object;" } : MethodName) prog_20_method_18_code (2 : Nat) (Option.some (ClassFile.FieldType.object "java/lang/Object"))) ∈ WS := WS_m2 (i := 189) rfl rfl
theorem km_X2_225 : (Cond.methodLink "HumpYard" (225 : Nat) ({ cls := "HumpYard$Cut", name := "rear", desc := "()D" } : MethodName)) ∈ WS := WS_m2 (i := 190) rfl rfl
theorem kn_X0_rear : (Cond.instanceMethod ({ cls := "HumpYard$Cut", name := "rear", desc := "()D" } : MethodName)) ∈ WS := WS_m2 (i := 191) rfl rfl
theorem kv_X0_rear : (Cond.selects "HumpYard$Cut" ({ cls := "HumpYard$Cut", name := "rear", desc := "()D" } : MethodName) ({ cls := "HumpYard$Cut", name := "rear", desc := "()D" } : MethodName)) ∈ WS := WS_m2 (i := 192) rfl rfl
theorem kc_X0_rear : (Cond.code ({ cls := "HumpYard$Cut", name := "rear", desc := "()D" } : MethodName) prog_2_method_2_code (1 : Nat) (Option.some ClassFile.FieldType.double)) ∈ WS := WS_m2 (i := 193) rfl rfl
theorem kd_X2_229 : (Cond.constantDouble "HumpYard" (229 : Nat) (4612811918334230528 : UInt64)) ∈ WS := WS_m2 (i := 194) rfl rfl
theorem km_X2_231 : (Cond.methodLink "HumpYard" (231 : Nat) ({ cls := "HumpYard", name := "isOneWay", desc := "(II)Z" } : MethodName)) ∈ WS := WS_m2 (i := 195) rfl rfl
theorem ks_X2_isOneWay : (Cond.static ({ cls := "HumpYard", name := "isOneWay", desc := "(II)Z" } : MethodName)) ∈ WS := WS_m2 (i := 196) rfl rfl
theorem kc_X2_isOneWay : (Cond.code ({ cls := "HumpYard", name := "isOneWay", desc := "(II)Z" } : MethodName) prog_1_method_25_code (2 : Nat) (Option.some ClassFile.FieldType.boolean)) ∈ WS := WS_m2 (i := 197) rfl rfl
theorem km_X2_212 : (Cond.methodLink "HumpYard" (212 : Nat) ({ cls := "HumpYard", name := "leadsTo", desc := "(II)Z" } : MethodName)) ∈ WS := WS_m2 (i := 198) rfl rfl
theorem ks_X2_leadsTo : (Cond.static ({ cls := "HumpYard", name := "leadsTo", desc := "(II)Z" } : MethodName)) ∈ WS := WS_m2 (i := 199) rfl rfl
theorem kc_X2_leadsTo : (Cond.code ({ cls := "HumpYard", name := "leadsTo", desc := "(II)Z" } : MethodName) prog_1_method_24_code (4 : Nat) (Option.some ClassFile.FieldType.boolean)) ∈ WS := WS_m2 (i := 200) rfl rfl
theorem km_X2_216 : (Cond.methodLink "HumpYard" (216 : Nat) ({ cls := "HumpYard", name := "firstBoundFor", desc := "(I)LHumpYard$Cut;" } : MethodName)) ∈ WS := WS_m2 (i := 201) rfl rfl
theorem kn_X2_firstBoundFor : (Cond.instanceMethod ({ cls := "HumpYard", name := "firstBoundFor", desc := "(I)LHumpYard$Cut;" } : MethodName)) ∈ WS := WS_m2 (i := 203) rfl rfl
theorem kc_X2_firstBoundFor : (Cond.code ({ cls := "HumpYard", name := "firstBoundFor", desc := "(I)LHumpYard$Cut;" } : MethodName) prog_1_method_29_code (5 : Nat) (Option.some (ClassFile.FieldType.object "HumpYard$Cut"))) ∈ WS := WS_m2 (i := 204) rfl rfl
theorem km_X2_234 : (Cond.methodLink "HumpYard" (234 : Nat) ({ cls := "HumpYard$Cut", name := "isBoundFor", desc := "(I)Z" } : MethodName)) ∈ WS := WS_m2 (i := 205) rfl rfl
theorem kn_X0_isBoundFor : (Cond.instanceMethod ({ cls := "HumpYard$Cut", name := "isBoundFor", desc := "(I)Z" } : MethodName)) ∈ WS := WS_m2 (i := 206) rfl rfl
theorem kv_X0_isBoundFor : (Cond.selects "HumpYard$Cut" ({ cls := "HumpYard$Cut", name := "isBoundFor", desc := "(I)Z" } : MethodName) ({ cls := "HumpYard$Cut", name := "isBoundFor", desc := "(I)Z" } : MethodName)) ∈ WS := WS_m2 (i := 207) rfl rfl
theorem kc_X0_isBoundFor : (Cond.code ({ cls := "HumpYard$Cut", name := "isBoundFor", desc := "(I)Z" } : MethodName) prog_2_method_3_code (2 : Nat) (Option.some ClassFile.FieldType.boolean)) ∈ WS := WS_m2 (i := 208) rfl rfl
theorem km_X2_219 : (Cond.methodLink "HumpYard" (219 : Nat) ({ cls := "HumpYard$Cut", name := "wishedSide", desc := "(I)I" } : MethodName)) ∈ WS := WS_m2 (i := 210) rfl rfl
theorem kn_X0_wishedSide : (Cond.instanceMethod ({ cls := "HumpYard$Cut", name := "wishedSide", desc := "(I)I" } : MethodName)) ∈ WS := WS_m2 (i := 211) rfl rfl
theorem kv_X0_wishedSide : (Cond.selects "HumpYard$Cut" ({ cls := "HumpYard$Cut", name := "wishedSide", desc := "(I)I" } : MethodName) ({ cls := "HumpYard$Cut", name := "wishedSide", desc := "(I)I" } : MethodName)) ∈ WS := WS_m2 (i := 212) rfl rfl
theorem kc_X0_wishedSide : (Cond.code ({ cls := "HumpYard$Cut", name := "wishedSide", desc := "(I)I" } : MethodName) prog_2_method_4_code (2 : Nat) (Option.some ClassFile.FieldType.int)) ∈ WS := WS_m2 (i := 213) rfl rfl
theorem ks_X2_nodeBehind : (Cond.static ({ cls := "HumpYard", name := "nodeBehind", desc := "(II)I" } : MethodName)) ∈ WS := WS_m2 (i := 215) rfl rfl
theorem kc_X2_nodeBehind : (Cond.code ({ cls := "HumpYard", name := "nodeBehind", desc := "(II)I" } : MethodName) prog_1_method_20_code (2 : Nat) (Option.some ClassFile.FieldType.int)) ∈ WS := WS_m2 (i := 216) rfl rfl
theorem km_X2_149 : (Cond.methodLink "HumpYard" (149 : Nat) ({ cls := "HumpYard", name := "rollAll", desc := "()V" } : MethodName)) ∈ WS := WS_m2 (i := 217) rfl rfl
theorem kn_X2_rollAll : (Cond.instanceMethod ({ cls := "HumpYard", name := "rollAll", desc := "()V" } : MethodName)) ∈ WS := WS_m2 (i := 219) rfl rfl
theorem kc_X2_rollAll : (Cond.code ({ cls := "HumpYard", name := "rollAll", desc := "()V" } : MethodName) prog_1_method_30_code (7 : Nat) (Option.none : Option ClassFile.FieldType)) ∈ WS := WS_m2 (i := 220) rfl rfl
theorem km_X2_237 : (Cond.methodLink "HumpYard" (237 : Nat) ({ cls := "HumpYard", name := "acceleration", desc := "(LHumpYard$Cut;)D" } : MethodName)) ∈ WS := WS_m2 (i := 221) rfl rfl
theorem kn_X2_acceleration : (Cond.instanceMethod ({ cls := "HumpYard", name := "acceleration", desc := "(LHumpYard$Cut;)D" } : MethodName)) ∈ WS := WS_m2 (i := 223) rfl rfl
theorem kc_X2_acceleration : (Cond.code ({ cls := "HumpYard", name := "acceleration", desc := "(LHumpYard$Cut;)D" } : MethodName) prog_1_method_31_code (5 : Nat) (Option.some ClassFile.FieldType.double)) ∈ WS := WS_m2 (i := 224) rfl rfl
theorem kd_X2_247 : (Cond.constantDouble "HumpYard" (247 : Nat) (4621713564472705024 : UInt64)) ∈ WS := WS_m2 (i := 225) rfl rfl
theorem km_X2_249 : (Cond.methodLink "HumpYard" (249 : Nat) ({ cls := "HumpYard", name := "grade", desc := "(D)D" } : MethodName)) ∈ WS := WS_m2 (i := 226) rfl rfl
theorem ks_X2_grade : (Cond.static ({ cls := "HumpYard", name := "grade", desc := "(D)D" } : MethodName)) ∈ WS := WS_m2 (i := 227) rfl rfl
theorem kc_X2_grade : (Cond.code ({ cls := "HumpYard", name := "grade", desc := "(D)D" } : MethodName) prog_1_method_32_code (2 : Nat) (Option.some ClassFile.FieldType.double)) ∈ WS := WS_m2 (i := 228) rfl rfl
theorem kd_X2_264 : (Cond.constantDouble "HumpYard" (264 : Nat) (4633641066610819072 : UInt64)) ∈ WS := WS_m2 (i := 229) rfl rfl
theorem kd_X2_266 : (Cond.constantDouble "HumpYard" (266 : Nat) (4586916220476850176 : UInt64)) ∈ WS := WS_m2 (i := 230) rfl rfl
theorem kd_X2_268 : (Cond.constantDouble "HumpYard" (268 : Nat) (4641240890982006784 : UInt64)) ∈ WS := WS_m2 (i := 231) rfl rfl
theorem kd_X2_270 : (Cond.constantDouble "HumpYard" (270 : Nat) (4578359381184846234 : UInt64)) ∈ WS := WS_m2 (i := 232) rfl rfl
theorem kd_X2_272 : (Cond.constantDouble "HumpYard" (272 : Nat) (4562254508917369340 : UInt64)) ∈ WS := WS_m2 (i := 233) rfl rfl
theorem kd_X2_256 : (Cond.constantDouble "HumpYard" (256 : Nat) (4652218415073722368 : UInt64)) ∈ WS := WS_m2 (i := 234) rfl rfl
theorem kd_X2_258 : (Cond.constantDouble "HumpYard" (258 : Nat) (4598175219545276416 : UInt64)) ∈ WS := WS_m2 (i := 235) rfl rfl
theorem km_X2_260 : (Cond.methodLink "HumpYard" (260 : Nat) ({ cls := "HumpYard", name := "brakeSteps", desc := "(LHumpYard$Cut;II)I" } : MethodName)) ∈ WS := WS_m2 (i := 236) rfl rfl
theorem kn_X2_brakeSteps : (Cond.instanceMethod ({ cls := "HumpYard", name := "brakeSteps", desc := "(LHumpYard$Cut;II)I" } : MethodName)) ∈ WS := WS_m2 (i := 238) rfl rfl
theorem kc_X2_brakeSteps : (Cond.code ({ cls := "HumpYard", name := "brakeSteps", desc := "(LHumpYard$Cut;II)I" } : MethodName) prog_1_method_33_code (7 : Nat) (Option.some ClassFile.FieldType.int)) ∈ WS := WS_m2 (i := 239) rfl rfl
theorem kd_X2_274 : (Cond.constantDouble "HumpYard" (274 : Nat) (4620693217682128896 : UInt64)) ∈ WS := WS_m3 (i := 0) rfl rfl
theorem km_X2_276 : (Cond.methodLink "HumpYard" (276 : Nat) ({ cls := "java/lang/Math", name := "min", desc := "(II)I" } : MethodName)) ∈ WS := WS_m3 (i := 1) rfl rfl
theorem km_X2_177 : (Cond.methodLink "HumpYard" (177 : Nat) ({ cls := "HumpYard", name := "trackOf", desc := "(I)I" } : MethodName)) ∈ WS := WS_m3 (i := 2) rfl rfl
theorem ks_X2_trackOf : (Cond.static ({ cls := "HumpYard", name := "trackOf", desc := "(I)I" } : MethodName)) ∈ WS := WS_m3 (i := 3) rfl rfl
theorem kc_X2_trackOf : (Cond.code ({ cls := "HumpYard", name := "trackOf", desc := "(I)I" } : MethodName) prog_1_method_21_code (2 : Nat) (Option.some ClassFile.FieldType.int)) ∈ WS := WS_m3 (i := 4) rfl rfl
theorem kd_X2_241 : (Cond.constantDouble "HumpYard" (241 : Nat) (4593671619917905920 : UInt64)) ∈ WS := WS_m3 (i := 5) rfl rfl
theorem km_X2_243 : (Cond.methodLink "HumpYard" (243 : Nat) ({ cls := "HumpYard", name := "passPoints", desc := "(LHumpYard$Cut;D)V" } : MethodName)) ∈ WS := WS_m3 (i := 6) rfl rfl
theorem kn_X2_passPoints : (Cond.instanceMethod ({ cls := "HumpYard", name := "passPoints", desc := "(LHumpYard$Cut;D)V" } : MethodName)) ∈ WS := WS_m3 (i := 8) rfl rfl
theorem kc_X2_passPoints : (Cond.code ({ cls := "HumpYard", name := "passPoints", desc := "(LHumpYard$Cut;D)V" } : MethodName) prog_1_method_34_code (6 : Nat) (Option.none : Option ClassFile.FieldType)) ∈ WS := WS_m3 (i := 9) rfl rfl
theorem km_X2_281 : (Cond.methodLink "HumpYard" (281 : Nat) ({ cls := "HumpYard", name := "pass", desc := "(LHumpYard$Cut;I)V" } : MethodName)) ∈ WS := WS_m3 (i := 10) rfl rfl
theorem kn_X2_pass : (Cond.instanceMethod ({ cls := "HumpYard", name := "pass", desc := "(LHumpYard$Cut;I)V" } : MethodName)) ∈ WS := WS_m3 (i := 12) rfl rfl
theorem kc_X2_pass : (Cond.code ({ cls := "HumpYard", name := "pass", desc := "(LHumpYard$Cut;I)V" } : MethodName) prog_1_method_35_code (4 : Nat) (Option.none : Option ClassFile.FieldType)) ∈ WS := WS_m3 (i := 13) rfl rfl
theorem km_X2_288 : (Cond.methodLink "HumpYard" (288 : Nat) ({ cls := "HumpYard$EventLog", name := "note", desc := "(IIII)V" } : MethodName)) ∈ WS := WS_m3 (i := 14) rfl rfl
theorem kn_X1_note : (Cond.instanceMethod ({ cls := "HumpYard$EventLog", name := "note", desc := "(IIII)V" } : MethodName)) ∈ WS := WS_m3 (i := 15) rfl rfl
theorem kv_X1_note : (Cond.selects "HumpYard$EventLog" ({ cls := "HumpYard$EventLog", name := "note", desc := "(IIII)V" } : MethodName) ({ cls := "HumpYard$EventLog", name := "note", desc := "(IIII)V" } : MethodName)) ∈ WS := WS_m3 (i := 16) rfl rfl
theorem kc_X1_note : (Cond.code ({ cls := "HumpYard$EventLog", name := "note", desc := "(IIII)V" } : MethodName) prog_3_method_2_code (6 : Nat) (Option.none : Option ClassFile.FieldType)) ∈ WS := WS_m3 (i := 17) rfl rfl
theorem km_X1_19 : (Cond.methodLink "HumpYard$EventLog" (19 : Nat) ({ cls := "java/lang/Math", name := "floorMod", desc := "(II)I" } : MethodName)) ∈ WS := WS_m3 (i := 18) rfl rfl
theorem ks_J9_floorMod_7cf53 : (Cond.static ({ cls := "java/lang/Math", name := "floorMod", desc := "(II)I" } : MethodName)) ∈ WS := WS_m3 (i := 19) rfl rfl
theorem kc_J9_floorMod_7cf53 : (Cond.code ({ cls := "java/lang/Math", name := "floorMod", desc := "(II)I" } : MethodName) prog_12_method_50_code (3 : Nat) (Option.some ClassFile.FieldType.int)) ∈ WS := WS_m3 (i := 20) rfl rfl
theorem km_X2_292 : (Cond.methodLink "HumpYard" (292 : Nat) ({ cls := "HumpYard", name := "nodeBehind", desc := "(II)I" } : MethodName)) ∈ WS := WS_m3 (i := 21) rfl rfl
theorem km_X2_152 : (Cond.methodLink "HumpYard" (152 : Nat) ({ cls := "HumpYard", name := "catchAll", desc := "()V" } : MethodName)) ∈ WS := WS_m3 (i := 22) rfl rfl
theorem kn_X2_catchAll : (Cond.instanceMethod ({ cls := "HumpYard", name := "catchAll", desc := "()V" } : MethodName)) ∈ WS := WS_m3 (i := 24) rfl rfl
theorem kc_X2_catchAll : (Cond.code ({ cls := "HumpYard", name := "catchAll", desc := "()V" } : MethodName) prog_1_method_36_code (4 : Nat) (Option.none : Option ClassFile.FieldType)) ∈ WS := WS_m3 (i := 25) rfl rfl
theorem km_X2_295 : (Cond.methodLink "HumpYard" (295 : Nat) ({ cls := "HumpYard", name := "aheadOf", desc := "(ILHumpYard$Cut;)LHumpYard$Cut;" } : MethodName)) ∈ WS := WS_m3 (i := 26) rfl rfl
theorem kn_X2_aheadOf : (Cond.instanceMethod ({ cls := "HumpYard", name := "aheadOf", desc := "(ILHumpYard$Cut;)LHumpYard$Cut;" } : MethodName)) ∈ WS := WS_m3 (i := 28) rfl rfl
theorem kc_X2_aheadOf : (Cond.code ({ cls := "HumpYard", name := "aheadOf", desc := "(ILHumpYard$Cut;)LHumpYard$Cut;" } : MethodName) prog_1_method_37_code (5 : Nat) (Option.some (ClassFile.FieldType.object "HumpYard$Cut"))) ∈ WS := WS_m3 (i := 29) rfl rfl
theorem km_X2_299 : (Cond.methodLink "HumpYard" (299 : Nat) ({ cls := "HumpYard", name := "catchUp", desc := "(LHumpYard$Cut;LHumpYard$Cut;)V" } : MethodName)) ∈ WS := WS_m3 (i := 30) rfl rfl
theorem kn_X2_catchUp : (Cond.instanceMethod ({ cls := "HumpYard", name := "catchUp", desc := "(LHumpYard$Cut;LHumpYard$Cut;)V" } : MethodName)) ∈ WS := WS_m3 (i := 32) rfl rfl
theorem kc_X2_catchUp : (Cond.code ({ cls := "HumpYard", name := "catchUp", desc := "(LHumpYard$Cut;LHumpYard$Cut;)V" } : MethodName) prog_1_method_38_code (5 : Nat) (Option.none : Option ClassFile.FieldType)) ∈ WS := WS_m3 (i := 33) rfl rfl
theorem km_X2_155 : (Cond.methodLink "HumpYard" (155 : Nat) ({ cls := "HumpYard", name := "endAll", desc := "()V" } : MethodName)) ∈ WS := WS_m3 (i := 34) rfl rfl
theorem kn_X2_endAll : (Cond.instanceMethod ({ cls := "HumpYard", name := "endAll", desc := "()V" } : MethodName)) ∈ WS := WS_m3 (i := 36) rfl rfl
theorem kc_X2_endAll : (Cond.code ({ cls := "HumpYard", name := "endAll", desc := "()V" } : MethodName) prog_1_method_39_code (4 : Nat) (Option.none : Option ClassFile.FieldType)) ∈ WS := WS_m3 (i := 37) rfl rfl
theorem km_X2_306 : (Cond.methodLink "HumpYard" (306 : Nat) ({ cls := "HumpYard", name := "endOnTrack", desc := "(LHumpYard$Cut;I)V" } : MethodName)) ∈ WS := WS_m3 (i := 38) rfl rfl
theorem kn_X2_endOnTrack : (Cond.instanceMethod ({ cls := "HumpYard", name := "endOnTrack", desc := "(LHumpYard$Cut;I)V" } : MethodName)) ∈ WS := WS_m3 (i := 40) rfl rfl
theorem kc_X2_endOnTrack : (Cond.code ({ cls := "HumpYard", name := "endOnTrack", desc := "(LHumpYard$Cut;I)V" } : MethodName) prog_1_method_40_code (3 : Nat) (Option.none : Option ClassFile.FieldType)) ∈ WS := WS_m3 (i := 41) rfl rfl
theorem km_X2_312 : (Cond.methodLink "HumpYard" (312 : Nat) ({ cls := "HumpYard", name := "land", desc := "(LHumpYard$Cut;I)V" } : MethodName)) ∈ WS := WS_m3 (i := 42) rfl rfl
theorem kn_X2_land : (Cond.instanceMethod ({ cls := "HumpYard", name := "land", desc := "(LHumpYard$Cut;I)V" } : MethodName)) ∈ WS := WS_m3 (i := 44) rfl rfl
theorem kc_X2_land : (Cond.code ({ cls := "HumpYard", name := "land", desc := "(LHumpYard$Cut;I)V" } : MethodName) prog_1_method_41_code (5 : Nat) (Option.none : Option ClassFile.FieldType)) ∈ WS := WS_m3 (i := 45) rfl rfl
theorem km_X2_321 : (Cond.methodLink "HumpYard" (321 : Nat) ({ cls := "HumpYard", name := "enterSiding", desc := "(LHumpYard$Cut;I)V" } : MethodName)) ∈ WS := WS_m3 (i := 46) rfl rfl
theorem kn_X2_enterSiding : (Cond.instanceMethod ({ cls := "HumpYard", name := "enterSiding", desc := "(LHumpYard$Cut;I)V" } : MethodName)) ∈ WS := WS_m3 (i := 48) rfl rfl
theorem kc_X2_enterSiding : (Cond.code ({ cls := "HumpYard", name := "enterSiding", desc := "(LHumpYard$Cut;I)V" } : MethodName) prog_1_method_43_code (4 : Nat) (Option.none : Option ClassFile.FieldType)) ∈ WS := WS_m3 (i := 49) rfl rfl
theorem km_X2_315 : (Cond.methodLink "HumpYard" (315 : Nat) ({ cls := "HumpYard", name := "stand", desc := "(LHumpYard$Cut;I)V" } : MethodName)) ∈ WS := WS_m3 (i := 50) rfl rfl
theorem kn_X2_stand : (Cond.instanceMethod ({ cls := "HumpYard", name := "stand", desc := "(LHumpYard$Cut;I)V" } : MethodName)) ∈ WS := WS_m3 (i := 52) rfl rfl
theorem kc_X2_stand : (Cond.code ({ cls := "HumpYard", name := "stand", desc := "(LHumpYard$Cut;I)V" } : MethodName) prog_1_method_42_code (3 : Nat) (Option.none : Option ClassFile.FieldType)) ∈ WS := WS_m3 (i := 53) rfl rfl
theorem km_X2_309 : (Cond.methodLink "HumpYard" (309 : Nat) ({ cls := "java/util/ArrayList", name := "remove", desc := "(I)Ljava/lang/Object;" } : MethodName)) ∈ WS := WS_m3 (i := 54) rfl rfl
theorem kn_Jx4a65c_remove_915e3 : (Cond.instanceMethod ({ cls := "java/util/ArrayList", name := "remove", desc := "(I)Ljava/lang/Object;" } : MethodName)) ∈ WS := WS_m3 (i := 55) rfl rfl
theorem kv_Jx4a65c_remove_915e3 : (Cond.selects "java/util/ArrayList" ({ cls := "java/util/ArrayList", name := "remove", desc := "(I)Ljava/lang/Object;" } : MethodName) ({ cls := "java/util/ArrayList", name := "remove", desc := "(I)Ljava/lang/Object;" } : MethodName)) ∈ WS := WS_m3 (i := 56) rfl rfl
theorem kc_Jx4a65c_remove_915e3 : (Cond.code ({ cls := "java/util/ArrayList", name := "remove", desc := "(I)Ljava/lang/Object;" } : MethodName) prog_20_method_29_code (4 : Nat) (Option.some (ClassFile.FieldType.object "java/lang/Object"))) ∈ WS := WS_m3 (i := 57) rfl rfl
theorem km_Jx4a65c_144 : (Cond.methodLink "java/util/ArrayList" (144 : Nat) ({ cls := "java/util/ArrayList", name := "fastRemove", desc := "([Ljava/lang/Object;I)V" } : MethodName)) ∈ WS := WS_m3 (i := 58) rfl rfl
theorem kn_Jx4a65c_fastRemove_b59b0 : (Cond.instanceMethod ({ cls := "java/util/ArrayList", name := "fastRemove", desc := "([Ljava/lang/Object;I)V" } : MethodName)) ∈ WS := WS_m3 (i := 60) rfl rfl
theorem kc_Jx4a65c_fastRemove_b59b0 : (Cond.code ({ cls := "java/util/ArrayList", name := "fastRemove", desc := "([Ljava/lang/Object;I)V" } : MethodName) prog_20_method_39_code (4 : Nat) (Option.none : Option ClassFile.FieldType)) ∈ WS := WS_m3 (i := 61) rfl rfl
theorem km_Jx4a65c_112 : (Cond.methodLink "java/util/ArrayList" (112 : Nat) ({ cls := "java/lang/System", name := "arraycopy", desc := "(Ljava/lang/Object;ILjava/lang/Object;II)V" } : MethodName)) ∈ WS := WS_m3 (i := 62) rfl rfl
theorem km_X2_158 : (Cond.methodLink "HumpYard" (158 : Nat) ({ cls := "HumpYard", name := "pushNext", desc := "()V" } : MethodName)) ∈ WS := WS_m3 (i := 63) rfl rfl
theorem kn_X2_pushNext : (Cond.instanceMethod ({ cls := "HumpYard", name := "pushNext", desc := "()V" } : MethodName)) ∈ WS := WS_m3 (i := 65) rfl rfl
theorem kc_X2_pushNext : (Cond.code ({ cls := "HumpYard", name := "pushNext", desc := "()V" } : MethodName) prog_1_method_44_code (2 : Nat) (Option.none : Option ClassFile.FieldType)) ∈ WS := WS_m3 (i := 66) rfl rfl
theorem km_X2_324 : (Cond.methodLink "HumpYard" (324 : Nat) ({ cls := "HumpYard", name := "isCrestClear", desc := "()Z" } : MethodName)) ∈ WS := WS_m3 (i := 67) rfl rfl
theorem kn_X2_isCrestClear : (Cond.instanceMethod ({ cls := "HumpYard", name := "isCrestClear", desc := "()Z" } : MethodName)) ∈ WS := WS_m3 (i := 69) rfl rfl
theorem kc_X2_isCrestClear : (Cond.code ({ cls := "HumpYard", name := "isCrestClear", desc := "()Z" } : MethodName) prog_1_method_45_code (2 : Nat) (Option.some ClassFile.FieldType.boolean)) ∈ WS := WS_m3 (i := 70) rfl rfl
theorem km_L_96 : (Cond.methodLink "HumpYardLaw" (96 : Nat) ({ cls := "HumpYardLaw", name := "place", desc := "(LHumpYard;I[D)I" } : MethodName)) ∈ WS := WS_m3 (i := 71) rfl rfl
theorem ks_L_place : (Cond.static ({ cls := "HumpYardLaw", name := "place", desc := "(LHumpYard;I[D)I" } : MethodName)) ∈ WS := WS_m3 (i := 72) rfl rfl
theorem kc_L_place : (Cond.codeWith ({ cls := "HumpYardLaw", name := "place", desc := "(LHumpYard;I[D)I" } : MethodName) method_9_code (4 : Nat) (Option.some ClassFile.FieldType.int) [((0 : Nat), (8 : Nat), (11 : Nat), (25 : Nat))]) ∈ WS := WS_m3 (i := 73) rfl rfl
theorem km_L_38 : (Cond.methodLink "HumpYardLaw" (38 : Nat) ({ cls := "HumpYard", name := "place", desc := "(I)D" } : MethodName)) ∈ WS := WS_m3 (i := 74) rfl rfl
theorem kn_X2_place : (Cond.instanceMethod ({ cls := "HumpYard", name := "place", desc := "(I)D" } : MethodName)) ∈ WS := WS_m3 (i := 75) rfl rfl
theorem kv_X2_place : (Cond.selects "HumpYard" ({ cls := "HumpYard", name := "place", desc := "(I)D" } : MethodName) ({ cls := "HumpYard", name := "place", desc := "(I)D" } : MethodName)) ∈ WS := WS_m3 (i := 76) rfl rfl
theorem kc_X2_place : (Cond.code ({ cls := "HumpYard", name := "place", desc := "(I)D" } : MethodName) prog_1_method_8_code (2 : Nat) (Option.some ClassFile.FieldType.double)) ∈ WS := WS_m3 (i := 77) rfl rfl
theorem km_X2_161 : (Cond.methodLink "HumpYard" (161 : Nat) ({ cls := "HumpYard", name := "cutOf", desc := "(I)LHumpYard$Cut;" } : MethodName)) ∈ WS := WS_m3 (i := 78) rfl rfl
theorem kn_X2_cutOf : (Cond.instanceMethod ({ cls := "HumpYard", name := "cutOf", desc := "(I)LHumpYard$Cut;" } : MethodName)) ∈ WS := WS_m3 (i := 80) rfl rfl
theorem kc_X2_cutOf : (Cond.code ({ cls := "HumpYard", name := "cutOf", desc := "(I)LHumpYard$Cut;" } : MethodName) prog_1_method_16_code (2 : Nat) (Option.some (ClassFile.FieldType.object "HumpYard$Cut"))) ∈ WS := WS_m3 (i := 81) rfl rfl
theorem km_L_100 : (Cond.methodLink "HumpYardLaw" (100 : Nat) ({ cls := "HumpYardLaw", name := "speed", desc := "(LHumpYard;I[D)I" } : MethodName)) ∈ WS := WS_m3 (i := 83) rfl rfl
theorem ks_L_speed : (Cond.static ({ cls := "HumpYardLaw", name := "speed", desc := "(LHumpYard;I[D)I" } : MethodName)) ∈ WS := WS_m3 (i := 84) rfl rfl
theorem kc_L_speed : (Cond.codeWith ({ cls := "HumpYardLaw", name := "speed", desc := "(LHumpYard;I[D)I" } : MethodName) method_10_code (4 : Nat) (Option.some ClassFile.FieldType.int) [((0 : Nat), (8 : Nat), (11 : Nat), (25 : Nat))]) ∈ WS := WS_m3 (i := 85) rfl rfl
theorem km_L_42 : (Cond.methodLink "HumpYardLaw" (42 : Nat) ({ cls := "HumpYard", name := "speed", desc := "(I)D" } : MethodName)) ∈ WS := WS_m3 (i := 86) rfl rfl
theorem kn_X2_speed : (Cond.instanceMethod ({ cls := "HumpYard", name := "speed", desc := "(I)D" } : MethodName)) ∈ WS := WS_m3 (i := 87) rfl rfl
theorem kv_X2_speed : (Cond.selects "HumpYard" ({ cls := "HumpYard", name := "speed", desc := "(I)D" } : MethodName) ({ cls := "HumpYard", name := "speed", desc := "(I)D" } : MethodName)) ∈ WS := WS_m3 (i := 88) rfl rfl
theorem kc_X2_speed : (Cond.code ({ cls := "HumpYard", name := "speed", desc := "(I)D" } : MethodName) prog_1_method_9_code (2 : Nat) (Option.some ClassFile.FieldType.double)) ∈ WS := WS_m3 (i := 89) rfl rfl
theorem km_L_103 : (Cond.methodLink "HumpYardLaw" (103 : Nat) ({ cls := "HumpYardLaw", name := "told", desc := "(LHumpYard;II[J)I" } : MethodName)) ∈ WS := WS_m3 (i := 90) rfl rfl
theorem ks_L_told : (Cond.static ({ cls := "HumpYardLaw", name := "told", desc := "(LHumpYard;II[J)I" } : MethodName)) ∈ WS := WS_m3 (i := 91) rfl rfl
theorem kc_L_told : (Cond.codeWith ({ cls := "HumpYardLaw", name := "told", desc := "(LHumpYard;II[J)I" } : MethodName) method_11_code (5 : Nat) (Option.some ClassFile.FieldType.int) [((0 : Nat), (10 : Nat), (13 : Nat), (25 : Nat)), ((0 : Nat), (10 : Nat), (17 : Nat), (13 : Nat))]) ∈ WS := WS_m3 (i := 92) rfl rfl
theorem km_L_45 : (Cond.methodLink "HumpYardLaw" (45 : Nat) ({ cls := "HumpYard", name := "told", desc := "(II)I" } : MethodName)) ∈ WS := WS_m3 (i := 93) rfl rfl
theorem kn_X2_told : (Cond.instanceMethod ({ cls := "HumpYard", name := "told", desc := "(II)I" } : MethodName)) ∈ WS := WS_m3 (i := 94) rfl rfl
theorem kv_X2_told : (Cond.selects "HumpYard" ({ cls := "HumpYard", name := "told", desc := "(II)I" } : MethodName) ({ cls := "HumpYard", name := "told", desc := "(II)I" } : MethodName)) ∈ WS := WS_m3 (i := 95) rfl rfl
theorem kc_X2_told : (Cond.code ({ cls := "HumpYard", name := "told", desc := "(II)I" } : MethodName) prog_1_method_10_code (4 : Nat) (Option.some ClassFile.FieldType.int)) ∈ WS := WS_m3 (i := 96) rfl rfl
theorem km_L_107 : (Cond.methodLink "HumpYardLaw" (107 : Nat) ({ cls := "HumpYardLaw", name := "point", desc := "(LHumpYard;II[J)I" } : MethodName)) ∈ WS := WS_m3 (i := 98) rfl rfl
theorem ks_L_point : (Cond.static ({ cls := "HumpYardLaw", name := "point", desc := "(LHumpYard;II[J)I" } : MethodName)) ∈ WS := WS_m3 (i := 99) rfl rfl
theorem kc_L_point : (Cond.codeWith ({ cls := "HumpYardLaw", name := "point", desc := "(LHumpYard;II[J)I" } : MethodName) method_12_code (5 : Nat) (Option.some ClassFile.FieldType.int) [((0 : Nat), (10 : Nat), (13 : Nat), (25 : Nat)), ((0 : Nat), (10 : Nat), (17 : Nat), (13 : Nat))]) ∈ WS := WS_m3 (i := 100) rfl rfl
theorem km_L_49 : (Cond.methodLink "HumpYardLaw" (49 : Nat) ({ cls := "HumpYard", name := "point", desc := "(II)I" } : MethodName)) ∈ WS := WS_m3 (i := 101) rfl rfl
theorem kn_X2_point : (Cond.instanceMethod ({ cls := "HumpYard", name := "point", desc := "(II)I" } : MethodName)) ∈ WS := WS_m3 (i := 102) rfl rfl
theorem kv_X2_point : (Cond.selects "HumpYard" ({ cls := "HumpYard", name := "point", desc := "(II)I" } : MethodName) ({ cls := "HumpYard", name := "point", desc := "(II)I" } : MethodName)) ∈ WS := WS_m3 (i := 103) rfl rfl
theorem kc_X2_point : (Cond.code ({ cls := "HumpYard", name := "point", desc := "(II)I" } : MethodName) prog_1_method_11_code (3 : Nat) (Option.some ClassFile.FieldType.int)) ∈ WS := WS_m3 (i := 104) rfl rfl
theorem km_L_110 : (Cond.methodLink "HumpYardLaw" (110 : Nat) ({ cls := "HumpYardLaw", name := "siding", desc := "(LHumpYard;II[J)I" } : MethodName)) ∈ WS := WS_m3 (i := 106) rfl rfl
theorem ks_L_siding : (Cond.static ({ cls := "HumpYardLaw", name := "siding", desc := "(LHumpYard;II[J)I" } : MethodName)) ∈ WS := WS_m3 (i := 107) rfl rfl
theorem kc_L_siding : (Cond.codeWith ({ cls := "HumpYardLaw", name := "siding", desc := "(LHumpYard;II[J)I" } : MethodName) method_13_code (5 : Nat) (Option.some ClassFile.FieldType.int) [((0 : Nat), (10 : Nat), (13 : Nat), (25 : Nat))]) ∈ WS := WS_m3 (i := 108) rfl rfl
theorem km_L_52 : (Cond.methodLink "HumpYardLaw" (52 : Nat) ({ cls := "HumpYard", name := "siding", desc := "(II)I" } : MethodName)) ∈ WS := WS_m3 (i := 109) rfl rfl
theorem kn_X2_siding : (Cond.instanceMethod ({ cls := "HumpYard", name := "siding", desc := "(II)I" } : MethodName)) ∈ WS := WS_m3 (i := 110) rfl rfl
theorem kv_X2_siding : (Cond.selects "HumpYard" ({ cls := "HumpYard", name := "siding", desc := "(II)I" } : MethodName) ({ cls := "HumpYard", name := "siding", desc := "(II)I" } : MethodName)) ∈ WS := WS_m3 (i := 111) rfl rfl
theorem kc_X2_siding : (Cond.code ({ cls := "HumpYard", name := "siding", desc := "(II)I" } : MethodName) prog_1_method_12_code (4 : Nat) (Option.some ClassFile.FieldType.int)) ∈ WS := WS_m3 (i := 112) rfl rfl
theorem km_L_113 : (Cond.methodLink "HumpYardLaw" (113 : Nat) ({ cls := "HumpYardLaw", name := "event", desc := "(LHumpYard;II[J)I" } : MethodName)) ∈ WS := WS_m3 (i := 113) rfl rfl
theorem ks_L_event : (Cond.static ({ cls := "HumpYardLaw", name := "event", desc := "(LHumpYard;II[J)I" } : MethodName)) ∈ WS := WS_m3 (i := 114) rfl rfl
theorem kc_L_event : (Cond.codeWith ({ cls := "HumpYardLaw", name := "event", desc := "(LHumpYard;II[J)I" } : MethodName) method_14_code (5 : Nat) (Option.some ClassFile.FieldType.int) [((0 : Nat), (10 : Nat), (13 : Nat), (25 : Nat)), ((0 : Nat), (10 : Nat), (17 : Nat), (13 : Nat))]) ∈ WS := WS_m3 (i := 115) rfl rfl
theorem km_L_55 : (Cond.methodLink "HumpYardLaw" (55 : Nat) ({ cls := "HumpYard", name := "event", desc := "(II)I" } : MethodName)) ∈ WS := WS_m3 (i := 116) rfl rfl
theorem kn_X2_event : (Cond.instanceMethod ({ cls := "HumpYard", name := "event", desc := "(II)I" } : MethodName)) ∈ WS := WS_m3 (i := 117) rfl rfl
theorem kv_X2_event : (Cond.selects "HumpYard" ({ cls := "HumpYard", name := "event", desc := "(II)I" } : MethodName) ({ cls := "HumpYard", name := "event", desc := "(II)I" } : MethodName)) ∈ WS := WS_m3 (i := 118) rfl rfl
theorem kc_X2_event : (Cond.code ({ cls := "HumpYard", name := "event", desc := "(II)I" } : MethodName) prog_1_method_13_code (3 : Nat) (Option.some ClassFile.FieldType.int)) ∈ WS := WS_m3 (i := 119) rfl rfl
theorem km_X2_194 : (Cond.methodLink "HumpYard" (194 : Nat) ({ cls := "HumpYard$EventLog", name := "keeps", desc := "(I)Z" } : MethodName)) ∈ WS := WS_m3 (i := 120) rfl rfl
theorem kn_X1_keeps : (Cond.instanceMethod ({ cls := "HumpYard$EventLog", name := "keeps", desc := "(I)Z" } : MethodName)) ∈ WS := WS_m3 (i := 121) rfl rfl
theorem kv_X1_keeps : (Cond.selects "HumpYard$EventLog" ({ cls := "HumpYard$EventLog", name := "keeps", desc := "(I)Z" } : MethodName) ({ cls := "HumpYard$EventLog", name := "keeps", desc := "(I)Z" } : MethodName)) ∈ WS := WS_m3 (i := 122) rfl rfl
theorem kc_X1_keeps : (Cond.code ({ cls := "HumpYard$EventLog", name := "keeps", desc := "(I)Z" } : MethodName) prog_3_method_3_code (2 : Nat) (Option.some ClassFile.FieldType.boolean)) ∈ WS := WS_m3 (i := 123) rfl rfl
theorem km_X2_201 : (Cond.methodLink "HumpYard" (201 : Nat) ({ cls := "HumpYard$EventLog", name := "number", desc := "(II)I" } : MethodName)) ∈ WS := WS_m3 (i := 126) rfl rfl
theorem kn_X1_number : (Cond.instanceMethod ({ cls := "HumpYard$EventLog", name := "number", desc := "(II)I" } : MethodName)) ∈ WS := WS_m3 (i := 127) rfl rfl
theorem kv_X1_number : (Cond.selects "HumpYard$EventLog" ({ cls := "HumpYard$EventLog", name := "number", desc := "(II)I" } : MethodName) ({ cls := "HumpYard$EventLog", name := "number", desc := "(II)I" } : MethodName)) ∈ WS := WS_m3 (i := 128) rfl rfl
theorem kc_X1_number : (Cond.code ({ cls := "HumpYard$EventLog", name := "number", desc := "(II)I" } : MethodName) prog_3_method_4_code (3 : Nat) (Option.some ClassFile.FieldType.int)) ∈ WS := WS_m3 (i := 129) rfl rfl
theorem km_L_116 : (Cond.methodLink "HumpYardLaw" (116 : Nat) ({ cls := "HumpYardLaw", name := "about", desc := "(LHumpYard;I[J)I" } : MethodName)) ∈ WS := WS_m3 (i := 130) rfl rfl
theorem ks_L_about : (Cond.static ({ cls := "HumpYardLaw", name := "about", desc := "(LHumpYard;I[J)I" } : MethodName)) ∈ WS := WS_m3 (i := 131) rfl rfl
theorem kc_L_about : (Cond.codeWith ({ cls := "HumpYardLaw", name := "about", desc := "(LHumpYard;I[J)I" } : MethodName) method_15_code (4 : Nat) (Option.some ClassFile.FieldType.int) [((0 : Nat), (9 : Nat), (12 : Nat), (13 : Nat))]) ∈ WS := WS_m3 (i := 132) rfl rfl
theorem km_L_58 : (Cond.methodLink "HumpYardLaw" (58 : Nat) ({ cls := "HumpYard", name := "about", desc := "(I)I" } : MethodName)) ∈ WS := WS_m3 (i := 133) rfl rfl
theorem kn_X2_about : (Cond.instanceMethod ({ cls := "HumpYard", name := "about", desc := "(I)I" } : MethodName)) ∈ WS := WS_m3 (i := 134) rfl rfl
theorem kv_X2_about : (Cond.selects "HumpYard" ({ cls := "HumpYard", name := "about", desc := "(I)I" } : MethodName) ({ cls := "HumpYard", name := "about", desc := "(I)I" } : MethodName)) ∈ WS := WS_m3 (i := 135) rfl rfl
theorem kc_X2_about : (Cond.code ({ cls := "HumpYard", name := "about", desc := "(I)I" } : MethodName) prog_1_method_14_code (2 : Nat) (Option.some ClassFile.FieldType.int)) ∈ WS := WS_m3 (i := 136) rfl rfl
theorem kl_L_62 : (Cond.classLink "HumpYardLaw" (62 : Nat) "HumpYardModel") ∈ WS := WS_m3 (i := 138) rfl rfl
theorem kt_X3 : (Cond.instantiable "HumpYardModel" (24 : Nat)) ∈ WS := WS_m3 (i := 139) rfl rfl
theorem km_L_64 : (Cond.methodLink "HumpYardLaw" (64 : Nat) ({ cls := "HumpYardModel", name := "<init>", desc := "()V" } : MethodName)) ∈ WS := WS_m3 (i := 140) rfl rfl
theorem kn_X3_init : (Cond.instanceMethod ({ cls := "HumpYardModel", name := "<init>", desc := "()V" } : MethodName)) ∈ WS := WS_m3 (i := 141) rfl rfl
theorem kc_X3_init : (Cond.code ({ cls := "HumpYardModel", name := "<init>", desc := "()V" } : MethodName) prog_5_method_1_code (2 : Nat) (Option.none : Option ClassFile.FieldType)) ∈ WS := WS_m3 (i := 142) rfl rfl
theorem km_X3_1 : (Cond.methodLink "HumpYardModel" (1 : Nat) ({ cls := "java/lang/Object", name := "<init>", desc := "()V" } : MethodName)) ∈ WS := WS_m3 (i := 143) rfl rfl
theorem kd_X3_66 : (Cond.constantDouble "HumpYardModel" (66 : Nat) (4611686018427387904 : UInt64)) ∈ WS := WS_m3 (i := 144) rfl rfl
theorem kd_X3_68 : (Cond.constantDouble "HumpYardModel" (68 : Nat) (4645744490609377280 : UInt64)) ∈ WS := WS_m3 (i := 145) rfl rfl
theorem kf_X3_70 : (Cond.fieldLink "HumpYardModel" (70 : Nat) "HumpYardModel" "code" "I") ∈ WS := WS_m3 (i := 146) rfl rfl
theorem kf_X3_80 : (Cond.fieldLink "HumpYardModel" (80 : Nat) "HumpYardModel" "cuts" "I") ∈ WS := WS_m3 (i := 147) rfl rfl
theorem kf_X3_7 : (Cond.fieldLink "HumpYardModel" (7 : Nat) "HumpYardModel" "state" "[I") ∈ WS := WS_m3 (i := 148) rfl rfl
theorem kf_X3_13 : (Cond.fieldLink "HumpYardModel" (13 : Nat) "HumpYardModel" "wagons" "[I") ∈ WS := WS_m3 (i := 149) rfl rfl
theorem kf_X3_16 : (Cond.fieldLink "HumpYardModel" (16 : Nat) "HumpYardModel" "tons" "[I") ∈ WS := WS_m3 (i := 150) rfl rfl
theorem kf_X3_19 : (Cond.fieldLink "HumpYardModel" (19 : Nat) "HumpYardModel" "resistance" "[D") ∈ WS := WS_m3 (i := 151) rfl rfl
theorem kf_X3_23 : (Cond.fieldLink "HumpYardModel" (23 : Nat) "HumpYardModel" "wished" "[I") ∈ WS := WS_m3 (i := 152) rfl rfl
theorem kf_X3_26 : (Cond.fieldLink "HumpYardModel" (26 : Nat) "HumpYardModel" "place" "[D") ∈ WS := WS_m3 (i := 153) rfl rfl
theorem kf_X3_29 : (Cond.fieldLink "HumpYardModel" (29 : Nat) "HumpYardModel" "speed" "[D") ∈ WS := WS_m3 (i := 154) rfl rfl
theorem kf_X3_32 : (Cond.fieldLink "HumpYardModel" (32 : Nat) "HumpYardModel" "passed" "[I") ∈ WS := WS_m3 (i := 155) rfl rfl
theorem kf_X3_35 : (Cond.fieldLink "HumpYardModel" (35 : Nat) "HumpYardModel" "sides" "[I") ∈ WS := WS_m3 (i := 156) rfl rfl
theorem kf_X3_38 : (Cond.fieldLink "HumpYardModel" (38 : Nat) "HumpYardModel" "caught" "[I") ∈ WS := WS_m3 (i := 157) rfl rfl
theorem kf_X3_89 : (Cond.fieldLink "HumpYardModel" (89 : Nat) "HumpYardModel" "push" "D") ∈ WS := WS_m3 (i := 158) rfl rfl
theorem kf_X3_41 : (Cond.fieldLink "HumpYardModel" (41 : Nat) "HumpYardModel" "wishes" "[D") ∈ WS := WS_m3 (i := 159) rfl rfl
theorem kf_X3_44 : (Cond.fieldLink "HumpYardModel" (44 : Nat) "HumpYardModel" "free" "[D") ∈ WS := WS_m3 (i := 160) rfl rfl
theorem kf_X3_47 : (Cond.fieldLink "HumpYardModel" (47 : Nat) "HumpYardModel" "lies" "[I") ∈ WS := WS_m3 (i := 161) rfl rfl
theorem kf_X3_50 : (Cond.fieldLink "HumpYardModel" (50 : Nat) "HumpYardModel" "turns" "[I") ∈ WS := WS_m3 (i := 162) rfl rfl
theorem kf_X3_53 : (Cond.fieldLink "HumpYardModel" (53 : Nat) "HumpYardModel" "stuck" "[Z") ∈ WS := WS_m3 (i := 163) rfl rfl
theorem kf_X3_57 : (Cond.fieldLink "HumpYardModel" (57 : Nat) "HumpYardModel" "sidings" "[I") ∈ WS := WS_m3 (i := 164) rfl rfl
theorem kf_X3_60 : (Cond.fieldLink "HumpYardModel" (60 : Nat) "HumpYardModel" "sided" "[I") ∈ WS := WS_m3 (i := 165) rfl rfl
theorem kf_X3_63 : (Cond.fieldLink "HumpYardModel" (63 : Nat) "HumpYardModel" "events" "[I") ∈ WS := WS_m3 (i := 166) rfl rfl
theorem kf_X3_128 : (Cond.fieldLink "HumpYardModel" (128 : Nat) "HumpYardModel" "eventCount" "I") ∈ WS := WS_m3 (i := 167) rfl rfl
theorem kf_X3_131 : (Cond.fieldLink "HumpYardModel" (131 : Nat) "HumpYardModel" "ticks" "I") ∈ WS := WS_m3 (i := 168) rfl rfl
theorem kf_X3_179 : (Cond.fieldLink "HumpYardModel" (179 : Nat) "HumpYardModel" "fastest" "D") ∈ WS := WS_m3 (i := 169) rfl rfl
theorem km_L_73 : (Cond.methodLink "HumpYardLaw" (73 : Nat) ({ cls := "HumpYardModel", name := "thrown", desc := "()I" } : MethodName)) ∈ WS := WS_m3 (i := 219) rfl rfl
theorem kn_X3_thrown : (Cond.instanceMethod ({ cls := "HumpYardModel", name := "thrown", desc := "()I" } : MethodName)) ∈ WS := WS_m3 (i := 220) rfl rfl
theorem kv_X3_thrown : (Cond.selects "HumpYardModel" ({ cls := "HumpYardModel", name := "thrown", desc := "()I" } : MethodName) ({ cls := "HumpYardModel", name := "thrown", desc := "()I" } : MethodName)) ∈ WS := WS_m3 (i := 221) rfl rfl
theorem kc_X3_thrown : (Cond.code ({ cls := "HumpYardModel", name := "thrown", desc := "()I" } : MethodName) prog_5_method_2_code (1 : Nat) (Option.some ClassFile.FieldType.int)) ∈ WS := WS_m3 (i := 222) rfl rfl
theorem km_L_72 : (Cond.methodLink "HumpYardLaw" (72 : Nat) ({ cls := "HumpYardModel", name := "cut", desc := "(IIDI)I" } : MethodName)) ∈ WS := WS_m3 (i := 223) rfl rfl
theorem kn_X3_cut : (Cond.instanceMethod ({ cls := "HumpYardModel", name := "cut", desc := "(IIDI)I" } : MethodName)) ∈ WS := WS_m3 (i := 224) rfl rfl
theorem kv_X3_cut : (Cond.selects "HumpYardModel" ({ cls := "HumpYardModel", name := "cut", desc := "(IIDI)I" } : MethodName) ({ cls := "HumpYardModel", name := "cut", desc := "(IIDI)I" } : MethodName)) ∈ WS := WS_m3 (i := 225) rfl rfl
theorem kc_X3_cut : (Cond.code ({ cls := "HumpYardModel", name := "cut", desc := "(IIDI)I" } : MethodName) prog_5_method_5_code (7 : Nat) (Option.some ClassFile.FieldType.int)) ∈ WS := WS_m3 (i := 226) rfl rfl
theorem kd_X3_74 : (Cond.constantDouble "HumpYardModel" (74 : Nat) (4625196817309499392 : UInt64)) ∈ WS := WS_m3 (i := 227) rfl rfl
theorem km_X3_76 : (Cond.methodLink "HumpYardModel" (76 : Nat) ({ cls := "HumpYardModel", name := "isIn", desc := "(DDD)Z" } : MethodName)) ∈ WS := WS_m3 (i := 228) rfl rfl
theorem ks_X3_isIn : (Cond.static ({ cls := "HumpYardModel", name := "isIn", desc := "(DDD)Z" } : MethodName)) ∈ WS := WS_m3 (i := 229) rfl rfl
theorem kc_X3_isIn : (Cond.code ({ cls := "HumpYardModel", name := "isIn", desc := "(DDD)Z" } : MethodName) prog_5_method_4_code (6 : Nat) (Option.some ClassFile.FieldType.boolean)) ∈ WS := WS_m3 (i := 230) rfl rfl
theorem km_X3_83 : (Cond.methodLink "HumpYardModel" (83 : Nat) ({ cls := "HumpYardModel", name := "refuses", desc := "(I)Z" } : MethodName)) ∈ WS := WS_m3 (i := 231) rfl rfl
theorem kn_X3_refuses : (Cond.instanceMethod ({ cls := "HumpYardModel", name := "refuses", desc := "(I)Z" } : MethodName)) ∈ WS := WS_m3 (i := 233) rfl rfl
theorem kc_X3_refuses : (Cond.code ({ cls := "HumpYardModel", name := "refuses", desc := "(I)Z" } : MethodName) prog_5_method_3_code (2 : Nat) (Option.some ClassFile.FieldType.boolean)) ∈ WS := WS_m3 (i := 234) rfl rfl
theorem km_L_80 : (Cond.methodLink "HumpYardLaw" (80 : Nat) ({ cls := "HumpYardModel", name := "push", desc := "(D)D" } : MethodName)) ∈ WS := WS_m3 (i := 235) rfl rfl
theorem kn_X3_push : (Cond.instanceMethod ({ cls := "HumpYardModel", name := "push", desc := "(D)D" } : MethodName)) ∈ WS := WS_m3 (i := 236) rfl rfl
theorem kv_X3_push : (Cond.selects "HumpYardModel" ({ cls := "HumpYardModel", name := "push", desc := "(D)D" } : MethodName) ({ cls := "HumpYardModel", name := "push", desc := "(D)D" } : MethodName)) ∈ WS := WS_m3 (i := 237) rfl rfl
theorem kc_X3_push : (Cond.code ({ cls := "HumpYardModel", name := "push", desc := "(D)D" } : MethodName) prog_5_method_6_code (5 : Nat) (Option.some ClassFile.FieldType.double)) ∈ WS := WS_m3 (i := 238) rfl rfl
theorem kd_X3_87 : (Cond.constantDouble "HumpYardModel" (87 : Nat) (4616189618054758400 : UInt64)) ∈ WS := WS_m3 (i := 239) rfl rfl
theorem km_L_84 : (Cond.methodLink "HumpYardLaw" (84 : Nat) ({ cls := "HumpYardModel", name := "wish", desc := "(ID)D" } : MethodName)) ∈ WS := WS_m4 (i := 0) rfl rfl
theorem kn_X3_wish : (Cond.instanceMethod ({ cls := "HumpYardModel", name := "wish", desc := "(ID)D" } : MethodName)) ∈ WS := WS_m4 (i := 1) rfl rfl
theorem kv_X3_wish : (Cond.selects "HumpYardModel" ({ cls := "HumpYardModel", name := "wish", desc := "(ID)D" } : MethodName) ({ cls := "HumpYardModel", name := "wish", desc := "(ID)D" } : MethodName)) ∈ WS := WS_m4 (i := 2) rfl rfl
theorem kc_X3_wish : (Cond.code ({ cls := "HumpYardModel", name := "wish", desc := "(ID)D" } : MethodName) prog_5_method_7_code (6 : Nat) (Option.some ClassFile.FieldType.double)) ∈ WS := WS_m4 (i := 3) rfl rfl
theorem kd_X3_93 : (Cond.constantDouble "HumpYardModel" (93 : Nat) (4626322717216342016 : UInt64)) ∈ WS := WS_m4 (i := 4) rfl rfl
theorem km_L_88 : (Cond.methodLink "HumpYardLaw" (88 : Nat) ({ cls := "HumpYardModel", name := "stick", desc := "(IZ)Z" } : MethodName)) ∈ WS := WS_m4 (i := 5) rfl rfl
theorem kn_X3_stick : (Cond.instanceMethod ({ cls := "HumpYardModel", name := "stick", desc := "(IZ)Z" } : MethodName)) ∈ WS := WS_m4 (i := 6) rfl rfl
theorem kv_X3_stick : (Cond.selects "HumpYardModel" ({ cls := "HumpYardModel", name := "stick", desc := "(IZ)Z" } : MethodName) ({ cls := "HumpYardModel", name := "stick", desc := "(IZ)Z" } : MethodName)) ∈ WS := WS_m4 (i := 7) rfl rfl
theorem kc_X3_stick : (Cond.code ({ cls := "HumpYardModel", name := "stick", desc := "(IZ)Z" } : MethodName) prog_5_method_8_code (4 : Nat) (Option.some ClassFile.FieldType.boolean)) ∈ WS := WS_m4 (i := 8) rfl rfl
theorem km_L_91 : (Cond.methodLink "HumpYardLaw" (91 : Nat) ({ cls := "HumpYardModel", name := "fill", desc := "(ID)D" } : MethodName)) ∈ WS := WS_m4 (i := 9) rfl rfl
theorem kn_X3_fill : (Cond.instanceMethod ({ cls := "HumpYardModel", name := "fill", desc := "(ID)D" } : MethodName)) ∈ WS := WS_m4 (i := 10) rfl rfl
theorem kv_X3_fill : (Cond.selects "HumpYardModel" ({ cls := "HumpYardModel", name := "fill", desc := "(ID)D" } : MethodName) ({ cls := "HumpYardModel", name := "fill", desc := "(ID)D" } : MethodName)) ∈ WS := WS_m4 (i := 11) rfl rfl
theorem kc_X3_fill : (Cond.code ({ cls := "HumpYardModel", name := "fill", desc := "(ID)D" } : MethodName) prog_5_method_9_code (6 : Nat) (Option.some ClassFile.FieldType.double)) ∈ WS := WS_m4 (i := 12) rfl rfl
theorem kd_X3_95 : (Cond.constantDouble "HumpYardModel" (95 : Nat) (4650248090236747776 : UInt64)) ∈ WS := WS_m4 (i := 13) rfl rfl
theorem km_L_95 : (Cond.methodLink "HumpYardLaw" (95 : Nat) ({ cls := "HumpYardModel", name := "tick", desc := "(I)I" } : MethodName)) ∈ WS := WS_m4 (i := 14) rfl rfl
theorem kn_X3_tick : (Cond.instanceMethod ({ cls := "HumpYardModel", name := "tick", desc := "(I)I" } : MethodName)) ∈ WS := WS_m4 (i := 15) rfl rfl
theorem kv_X3_tick : (Cond.selects "HumpYardModel" ({ cls := "HumpYardModel", name := "tick", desc := "(I)I" } : MethodName) ({ cls := "HumpYardModel", name := "tick", desc := "(I)I" } : MethodName)) ∈ WS := WS_m4 (i := 16) rfl rfl
theorem kc_X3_tick : (Cond.code ({ cls := "HumpYardModel", name := "tick", desc := "(I)I" } : MethodName) prog_5_method_26_code (5 : Nat) (Option.some ClassFile.FieldType.int)) ∈ WS := WS_m4 (i := 17) rfl rfl
theorem km_X3_182 : (Cond.methodLink "HumpYardModel" (182 : Nat) ({ cls := "HumpYardModel", name := "points", desc := "()V" } : MethodName)) ∈ WS := WS_m4 (i := 18) rfl rfl
theorem kn_X3_points : (Cond.instanceMethod ({ cls := "HumpYardModel", name := "points", desc := "()V" } : MethodName)) ∈ WS := WS_m4 (i := 20) rfl rfl
theorem kc_X3_points : (Cond.code ({ cls := "HumpYardModel", name := "points", desc := "()V" } : MethodName) prog_5_method_19_code (3 : Nat) (Option.none : Option ClassFile.FieldType)) ∈ WS := WS_m4 (i := 21) rfl rfl
theorem km_X3_134 : (Cond.methodLink "HumpYardModel" (134 : Nat) ({ cls := "HumpYardModel", name := "isBusy", desc := "(I)Z" } : MethodName)) ∈ WS := WS_m4 (i := 22) rfl rfl
theorem kn_X3_isBusy : (Cond.instanceMethod ({ cls := "HumpYardModel", name := "isBusy", desc := "(I)Z" } : MethodName)) ∈ WS := WS_m4 (i := 24) rfl rfl
theorem kc_X3_isBusy : (Cond.code ({ cls := "HumpYardModel", name := "isBusy", desc := "(I)Z" } : MethodName) prog_5_method_15_code (3 : Nat) (Option.some ClassFile.FieldType.boolean)) ∈ WS := WS_m4 (i := 25) rfl rfl
theorem km_X3_110 : (Cond.methodLink "HumpYardModel" (110 : Nat) ({ cls := "HumpYardModel", name := "goesBy", desc := "(II)Z" } : MethodName)) ∈ WS := WS_m4 (i := 26) rfl rfl
theorem kn_X3_goesBy : (Cond.instanceMethod ({ cls := "HumpYardModel", name := "goesBy", desc := "(II)Z" } : MethodName)) ∈ WS := WS_m4 (i := 28) rfl rfl
theorem kc_X3_goesBy : (Cond.code ({ cls := "HumpYardModel", name := "goesBy", desc := "(II)Z" } : MethodName) prog_5_method_13_code (4 : Nat) (Option.some ClassFile.FieldType.boolean)) ∈ WS := WS_m4 (i := 29) rfl rfl
theorem km_X3_101 : (Cond.methodLink "HumpYardModel" (101 : Nat) ({ cls := "HumpYardModel", name := "level", desc := "(I)I" } : MethodName)) ∈ WS := WS_m4 (i := 30) rfl rfl
theorem ks_X3_level : (Cond.static ({ cls := "HumpYardModel", name := "level", desc := "(I)I" } : MethodName)) ∈ WS := WS_m4 (i := 31) rfl rfl
theorem kc_X3_level : (Cond.code ({ cls := "HumpYardModel", name := "level", desc := "(I)I" } : MethodName) prog_5_method_10_code (1 : Nat) (Option.some ClassFile.FieldType.int)) ∈ WS := WS_m4 (i := 32) rfl rfl
theorem km_X3_105 : (Cond.methodLink "HumpYardModel" (105 : Nat) ({ cls := "HumpYardModel", name := "wayTo", desc := "(I)I" } : MethodName)) ∈ WS := WS_m4 (i := 33) rfl rfl
theorem ks_X3_wayTo : (Cond.static ({ cls := "HumpYardModel", name := "wayTo", desc := "(I)I" } : MethodName)) ∈ WS := WS_m4 (i := 34) rfl rfl
theorem kc_X3_wayTo : (Cond.code ({ cls := "HumpYardModel", name := "wayTo", desc := "(I)I" } : MethodName) prog_5_method_12_code (1 : Nat) (Option.some ClassFile.FieldType.int)) ∈ WS := WS_m4 (i := 35) rfl rfl
theorem km_X3_114 : (Cond.methodLink "HumpYardModel" (114 : Nat) ({ cls := "HumpYardModel", name := "placeOf", desc := "(I)D" } : MethodName)) ∈ WS := WS_m4 (i := 36) rfl rfl
theorem ks_X3_placeOf : (Cond.static ({ cls := "HumpYardModel", name := "placeOf", desc := "(I)D" } : MethodName)) ∈ WS := WS_m4 (i := 37) rfl rfl
theorem kc_X3_placeOf : (Cond.code ({ cls := "HumpYardModel", name := "placeOf", desc := "(I)D" } : MethodName) prog_5_method_11_code (1 : Nat) (Option.some ClassFile.FieldType.double)) ∈ WS := WS_m4 (i := 38) rfl rfl
theorem kd_X3_97 : (Cond.constantDouble "HumpYardModel" (97 : Nat) (4635329916471083008 : UInt64)) ∈ WS := WS_m4 (i := 39) rfl rfl
theorem kd_X3_99 : (Cond.constantDouble "HumpYardModel" (99 : Nat) (4630826316843712512 : UInt64)) ∈ WS := WS_m4 (i := 40) rfl rfl
theorem kd_X3_118 : (Cond.constantDouble "HumpYardModel" (118 : Nat) (4624633867356078080 : UInt64)) ∈ WS := WS_m4 (i := 41) rfl rfl
theorem km_X3_120 : (Cond.methodLink "HumpYardModel" (120 : Nat) ({ cls := "HumpYardModel", name := "rear", desc := "(I)D" } : MethodName)) ∈ WS := WS_m4 (i := 42) rfl rfl
theorem kn_X3_rear : (Cond.instanceMethod ({ cls := "HumpYardModel", name := "rear", desc := "(I)D" } : MethodName)) ∈ WS := WS_m4 (i := 44) rfl rfl
theorem kc_X3_rear : (Cond.code ({ cls := "HumpYardModel", name := "rear", desc := "(I)D" } : MethodName) prog_5_method_14_code (2 : Nat) (Option.some ClassFile.FieldType.double)) ∈ WS := WS_m4 (i := 45) rfl rfl
theorem kd_X3_108 : (Cond.constantDouble "HumpYardModel" (108 : Nat) (4623226492472524800 : UInt64)) ∈ WS := WS_m4 (i := 46) rfl rfl
theorem kd_X3_123 : (Cond.constantDouble "HumpYardModel" (123 : Nat) (4612811918334230528 : UInt64)) ∈ WS := WS_m4 (i := 47) rfl rfl
theorem km_X3_137 : (Cond.methodLink "HumpYardModel" (137 : Nat) ({ cls := "HumpYardModel", name := "bound", desc := "(I)I" } : MethodName)) ∈ WS := WS_m4 (i := 48) rfl rfl
theorem kn_X3_bound : (Cond.instanceMethod ({ cls := "HumpYardModel", name := "bound", desc := "(I)I" } : MethodName)) ∈ WS := WS_m4 (i := 50) rfl rfl
theorem kc_X3_bound : (Cond.code ({ cls := "HumpYardModel", name := "bound", desc := "(I)I" } : MethodName) prog_5_method_17_code (4 : Nat) (Option.some ClassFile.FieldType.int)) ∈ WS := WS_m4 (i := 51) rfl rfl
theorem km_X3_125 : (Cond.methodLink "HumpYardModel" (125 : Nat) ({ cls := "HumpYardModel", name := "leads", desc := "(II)Z" } : MethodName)) ∈ WS := WS_m4 (i := 52) rfl rfl
theorem ks_X3_leads : (Cond.static ({ cls := "HumpYardModel", name := "leads", desc := "(II)Z" } : MethodName)) ∈ WS := WS_m4 (i := 53) rfl rfl
theorem kc_X3_leads : (Cond.code ({ cls := "HumpYardModel", name := "leads", desc := "(II)Z" } : MethodName) prog_5_method_16_code (2 : Nat) (Option.some ClassFile.FieldType.boolean)) ∈ WS := WS_m4 (i := 54) rfl rfl
theorem km_X3_185 : (Cond.methodLink "HumpYardModel" (185 : Nat) ({ cls := "HumpYardModel", name := "rolls", desc := "(I)V" } : MethodName)) ∈ WS := WS_m4 (i := 55) rfl rfl
theorem kn_X3_rolls : (Cond.instanceMethod ({ cls := "HumpYardModel", name := "rolls", desc := "(I)V" } : MethodName)) ∈ WS := WS_m4 (i := 57) rfl rfl
theorem kc_X3_rolls : (Cond.code ({ cls := "HumpYardModel", name := "rolls", desc := "(I)V" } : MethodName) prog_5_method_21_code (11 : Nat) (Option.none : Option ClassFile.FieldType)) ∈ WS := WS_m4 (i := 58) rfl rfl
theorem kd_X3_152 : (Cond.constantDouble "HumpYardModel" (152 : Nat) (4633641066610819072 : UInt64)) ∈ WS := WS_m4 (i := 59) rfl rfl
theorem kd_X3_154 : (Cond.constantDouble "HumpYardModel" (154 : Nat) (4586916220476850176 : UInt64)) ∈ WS := WS_m4 (i := 60) rfl rfl
theorem kd_X3_156 : (Cond.constantDouble "HumpYardModel" (156 : Nat) (4641240890982006784 : UInt64)) ∈ WS := WS_m4 (i := 61) rfl rfl
theorem kd_X3_158 : (Cond.constantDouble "HumpYardModel" (158 : Nat) (4578359381184846234 : UInt64)) ∈ WS := WS_m4 (i := 62) rfl rfl
theorem kd_X3_160 : (Cond.constantDouble "HumpYardModel" (160 : Nat) (4562254508917369340 : UInt64)) ∈ WS := WS_m4 (i := 63) rfl rfl
theorem kd_X3_162 : (Cond.constantDouble "HumpYardModel" (162 : Nat) (4621713564472705024 : UInt64)) ∈ WS := WS_m4 (i := 64) rfl rfl
theorem kd_X3_164 : (Cond.constantDouble "HumpYardModel" (164 : Nat) (4652218415073722368 : UInt64)) ∈ WS := WS_m4 (i := 65) rfl rfl
theorem km_X3_166 : (Cond.methodLink "HumpYardModel" (166 : Nat) ({ cls := "HumpYardModel", name := "brakes", desc := "(II)D" } : MethodName)) ∈ WS := WS_m4 (i := 66) rfl rfl
theorem kn_X3_brakes : (Cond.instanceMethod ({ cls := "HumpYardModel", name := "brakes", desc := "(II)D" } : MethodName)) ∈ WS := WS_m4 (i := 68) rfl rfl
theorem kc_X3_brakes : (Cond.code ({ cls := "HumpYardModel", name := "brakes", desc := "(II)D" } : MethodName) prog_5_method_20_code (8 : Nat) (Option.some ClassFile.FieldType.double)) ∈ WS := WS_m4 (i := 69) rfl rfl
theorem kd_X3_140 : (Cond.constantDouble "HumpYardModel" (140 : Nat) (4629137466983448576 : UInt64)) ∈ WS := WS_m4 (i := 70) rfl rfl
theorem kd_X3_142 : (Cond.constantDouble "HumpYardModel" (142 : Nat) (4641592734702895104 : UInt64)) ∈ WS := WS_m4 (i := 71) rfl rfl
theorem kd_X3_144 : (Cond.constantDouble "HumpYardModel" (144 : Nat) (4632233691727265792 : UInt64)) ∈ WS := WS_m4 (i := 72) rfl rfl
theorem kd_X3_146 : (Cond.constantDouble "HumpYardModel" (146 : Nat) (4642296422144671744 : UInt64)) ∈ WS := WS_m4 (i := 73) rfl rfl
theorem kd_X3_148 : (Cond.constantDouble "HumpYardModel" (148 : Nat) (4620693217682128896 : UInt64)) ∈ WS := WS_m4 (i := 74) rfl rfl
theorem kd_X3_150 : (Cond.constantDouble "HumpYardModel" (150 : Nat) (4598175219545276416 : UInt64)) ∈ WS := WS_m4 (i := 75) rfl rfl
theorem kd_X3_170 : (Cond.constantDouble "HumpYardModel" (170 : Nat) (4593671619917905920 : UInt64)) ∈ WS := WS_m4 (i := 76) rfl rfl
theorem km_X3_172 : (Cond.methodLink "HumpYardModel" (172 : Nat) ({ cls := "HumpYardModel", name := "notes", desc := "(III)V" } : MethodName)) ∈ WS := WS_m4 (i := 77) rfl rfl
theorem kn_X3_notes : (Cond.instanceMethod ({ cls := "HumpYardModel", name := "notes", desc := "(III)V" } : MethodName)) ∈ WS := WS_m4 (i := 79) rfl rfl
theorem kc_X3_notes : (Cond.code ({ cls := "HumpYardModel", name := "notes", desc := "(III)V" } : MethodName) prog_5_method_18_code (5 : Nat) (Option.none : Option ClassFile.FieldType)) ∈ WS := WS_m4 (i := 80) rfl rfl
theorem km_X3_189 : (Cond.methodLink "HumpYardModel" (189 : Nat) ({ cls := "HumpYardModel", name := "catches", desc := "(I)V" } : MethodName)) ∈ WS := WS_m4 (i := 81) rfl rfl
theorem kn_X3_catches : (Cond.instanceMethod ({ cls := "HumpYardModel", name := "catches", desc := "(I)V" } : MethodName)) ∈ WS := WS_m4 (i := 83) rfl rfl
theorem kc_X3_catches : (Cond.code ({ cls := "HumpYardModel", name := "catches", desc := "(I)V" } : MethodName) prog_5_method_23_code (9 : Nat) (Option.none : Option ClassFile.FieldType)) ∈ WS := WS_m4 (i := 84) rfl rfl
theorem km_X3_176 : (Cond.methodLink "HumpYardModel" (176 : Nat) ({ cls := "HumpYardModel", name := "ahead", desc := "(I)I" } : MethodName)) ∈ WS := WS_m4 (i := 85) rfl rfl
theorem kn_X3_ahead : (Cond.instanceMethod ({ cls := "HumpYardModel", name := "ahead", desc := "(I)I" } : MethodName)) ∈ WS := WS_m4 (i := 87) rfl rfl
theorem kc_X3_ahead : (Cond.code ({ cls := "HumpYardModel", name := "ahead", desc := "(I)I" } : MethodName) prog_5_method_22_code (4 : Nat) (Option.some ClassFile.FieldType.int)) ∈ WS := WS_m4 (i := 88) rfl rfl
theorem km_X3_192 : (Cond.methodLink "HumpYardModel" (192 : Nat) ({ cls := "HumpYardModel", name := "ends", desc := "(I)V" } : MethodName)) ∈ WS := WS_m4 (i := 89) rfl rfl
theorem kn_X3_ends : (Cond.instanceMethod ({ cls := "HumpYardModel", name := "ends", desc := "(I)V" } : MethodName)) ∈ WS := WS_m4 (i := 91) rfl rfl
theorem kc_X3_ends : (Cond.code ({ cls := "HumpYardModel", name := "ends", desc := "(I)V" } : MethodName) prog_5_method_24_code (5 : Nat) (Option.none : Option ClassFile.FieldType)) ∈ WS := WS_m4 (i := 92) rfl rfl
theorem km_X3_195 : (Cond.methodLink "HumpYardModel" (195 : Nat) ({ cls := "HumpYardModel", name := "pushes", desc := "()V" } : MethodName)) ∈ WS := WS_m4 (i := 93) rfl rfl
theorem kn_X3_pushes : (Cond.instanceMethod ({ cls := "HumpYardModel", name := "pushes", desc := "()V" } : MethodName)) ∈ WS := WS_m4 (i := 95) rfl rfl
theorem kc_X3_pushes : (Cond.code ({ cls := "HumpYardModel", name := "pushes", desc := "()V" } : MethodName) prog_5_method_25_code (4 : Nat) (Option.none : Option ClassFile.FieldType)) ∈ WS := WS_m4 (i := 96) rfl rfl
theorem km_L_99 : (Cond.methodLink "HumpYardLaw" (99 : Nat) ({ cls := "HumpYardModel", name := "place", desc := "(I)D" } : MethodName)) ∈ WS := WS_m4 (i := 97) rfl rfl
theorem kn_X3_place : (Cond.instanceMethod ({ cls := "HumpYardModel", name := "place", desc := "(I)D" } : MethodName)) ∈ WS := WS_m4 (i := 98) rfl rfl
theorem kv_X3_place : (Cond.selects "HumpYardModel" ({ cls := "HumpYardModel", name := "place", desc := "(I)D" } : MethodName) ({ cls := "HumpYardModel", name := "place", desc := "(I)D" } : MethodName)) ∈ WS := WS_m4 (i := 99) rfl rfl
theorem kc_X3_place : (Cond.code ({ cls := "HumpYardModel", name := "place", desc := "(I)D" } : MethodName) prog_5_method_28_code (2 : Nat) (Option.some ClassFile.FieldType.double)) ∈ WS := WS_m4 (i := 100) rfl rfl
theorem km_X3_198 : (Cond.methodLink "HumpYardModel" (198 : Nat) ({ cls := "HumpYardModel", name := "isCut", desc := "(I)Z" } : MethodName)) ∈ WS := WS_m4 (i := 101) rfl rfl
theorem kn_X3_isCut : (Cond.instanceMethod ({ cls := "HumpYardModel", name := "isCut", desc := "(I)Z" } : MethodName)) ∈ WS := WS_m4 (i := 103) rfl rfl
theorem kc_X3_isCut : (Cond.code ({ cls := "HumpYardModel", name := "isCut", desc := "(I)Z" } : MethodName) prog_5_method_27_code (2 : Nat) (Option.some ClassFile.FieldType.boolean)) ∈ WS := WS_m4 (i := 104) rfl rfl
theorem km_L_102 : (Cond.methodLink "HumpYardLaw" (102 : Nat) ({ cls := "HumpYardModel", name := "speed", desc := "(I)D" } : MethodName)) ∈ WS := WS_m4 (i := 105) rfl rfl
theorem kn_X3_speed : (Cond.instanceMethod ({ cls := "HumpYardModel", name := "speed", desc := "(I)D" } : MethodName)) ∈ WS := WS_m4 (i := 106) rfl rfl
theorem kv_X3_speed : (Cond.selects "HumpYardModel" ({ cls := "HumpYardModel", name := "speed", desc := "(I)D" } : MethodName) ({ cls := "HumpYardModel", name := "speed", desc := "(I)D" } : MethodName)) ∈ WS := WS_m4 (i := 107) rfl rfl
theorem kc_X3_speed : (Cond.code ({ cls := "HumpYardModel", name := "speed", desc := "(I)D" } : MethodName) prog_5_method_29_code (2 : Nat) (Option.some ClassFile.FieldType.double)) ∈ WS := WS_m4 (i := 108) rfl rfl
theorem km_L_106 : (Cond.methodLink "HumpYardLaw" (106 : Nat) ({ cls := "HumpYardModel", name := "told", desc := "(II)I" } : MethodName)) ∈ WS := WS_m4 (i := 109) rfl rfl
theorem kn_X3_told : (Cond.instanceMethod ({ cls := "HumpYardModel", name := "told", desc := "(II)I" } : MethodName)) ∈ WS := WS_m4 (i := 110) rfl rfl
theorem kv_X3_told : (Cond.selects "HumpYardModel" ({ cls := "HumpYardModel", name := "told", desc := "(II)I" } : MethodName) ({ cls := "HumpYardModel", name := "told", desc := "(II)I" } : MethodName)) ∈ WS := WS_m4 (i := 111) rfl rfl
theorem kc_X3_told : (Cond.code ({ cls := "HumpYardModel", name := "told", desc := "(II)I" } : MethodName) prog_5_method_30_code (3 : Nat) (Option.some ClassFile.FieldType.int)) ∈ WS := WS_m4 (i := 112) rfl rfl
theorem km_L_109 : (Cond.methodLink "HumpYardLaw" (109 : Nat) ({ cls := "HumpYardModel", name := "point", desc := "(II)I" } : MethodName)) ∈ WS := WS_m4 (i := 113) rfl rfl
theorem kn_X3_point : (Cond.instanceMethod ({ cls := "HumpYardModel", name := "point", desc := "(II)I" } : MethodName)) ∈ WS := WS_m4 (i := 114) rfl rfl
theorem kv_X3_point : (Cond.selects "HumpYardModel" ({ cls := "HumpYardModel", name := "point", desc := "(II)I" } : MethodName) ({ cls := "HumpYardModel", name := "point", desc := "(II)I" } : MethodName)) ∈ WS := WS_m4 (i := 115) rfl rfl
theorem kc_X3_point : (Cond.code ({ cls := "HumpYardModel", name := "point", desc := "(II)I" } : MethodName) prog_5_method_31_code (3 : Nat) (Option.some ClassFile.FieldType.int)) ∈ WS := WS_m4 (i := 116) rfl rfl
theorem km_L_112 : (Cond.methodLink "HumpYardLaw" (112 : Nat) ({ cls := "HumpYardModel", name := "siding", desc := "(II)I" } : MethodName)) ∈ WS := WS_m4 (i := 117) rfl rfl
theorem kn_X3_siding : (Cond.instanceMethod ({ cls := "HumpYardModel", name := "siding", desc := "(II)I" } : MethodName)) ∈ WS := WS_m4 (i := 118) rfl rfl
theorem kv_X3_siding : (Cond.selects "HumpYardModel" ({ cls := "HumpYardModel", name := "siding", desc := "(II)I" } : MethodName) ({ cls := "HumpYardModel", name := "siding", desc := "(II)I" } : MethodName)) ∈ WS := WS_m4 (i := 119) rfl rfl
theorem kc_X3_siding : (Cond.code ({ cls := "HumpYardModel", name := "siding", desc := "(II)I" } : MethodName) prog_5_method_32_code (3 : Nat) (Option.some ClassFile.FieldType.int)) ∈ WS := WS_m4 (i := 120) rfl rfl
theorem km_L_115 : (Cond.methodLink "HumpYardLaw" (115 : Nat) ({ cls := "HumpYardModel", name := "event", desc := "(II)I" } : MethodName)) ∈ WS := WS_m4 (i := 121) rfl rfl
theorem kn_X3_event : (Cond.instanceMethod ({ cls := "HumpYardModel", name := "event", desc := "(II)I" } : MethodName)) ∈ WS := WS_m4 (i := 122) rfl rfl
theorem kv_X3_event : (Cond.selects "HumpYardModel" ({ cls := "HumpYardModel", name := "event", desc := "(II)I" } : MethodName) ({ cls := "HumpYardModel", name := "event", desc := "(II)I" } : MethodName)) ∈ WS := WS_m4 (i := 123) rfl rfl
theorem kc_X3_event : (Cond.code ({ cls := "HumpYardModel", name := "event", desc := "(II)I" } : MethodName) prog_5_method_33_code (3 : Nat) (Option.some ClassFile.FieldType.int)) ∈ WS := WS_m4 (i := 124) rfl rfl
theorem km_L_118 : (Cond.methodLink "HumpYardLaw" (118 : Nat) ({ cls := "HumpYardModel", name := "about", desc := "(I)I" } : MethodName)) ∈ WS := WS_m4 (i := 125) rfl rfl
theorem kn_X3_about : (Cond.instanceMethod ({ cls := "HumpYardModel", name := "about", desc := "(I)I" } : MethodName)) ∈ WS := WS_m4 (i := 126) rfl rfl
theorem kv_X3_about : (Cond.selects "HumpYardModel" ({ cls := "HumpYardModel", name := "about", desc := "(I)I" } : MethodName) ({ cls := "HumpYardModel", name := "about", desc := "(I)I" } : MethodName)) ∈ WS := WS_m4 (i := 127) rfl rfl
theorem kc_X3_about : (Cond.code ({ cls := "HumpYardModel", name := "about", desc := "(I)I" } : MethodName) prog_5_method_34_code (4 : Nat) (Option.some ClassFile.FieldType.int)) ∈ WS := WS_m4 (i := 128) rfl rfl
theorem km_L_123 : (Cond.methodLink "HumpYardLaw" (123 : Nat) ({ cls := "HumpYardModel", name := "fastest", desc := "()D" } : MethodName)) ∈ WS := WS_m4 (i := 129) rfl rfl
theorem kn_X3_fastest : (Cond.instanceMethod ({ cls := "HumpYardModel", name := "fastest", desc := "()D" } : MethodName)) ∈ WS := WS_m4 (i := 130) rfl rfl
theorem kv_X3_fastest : (Cond.selects "HumpYardModel" ({ cls := "HumpYardModel", name := "fastest", desc := "()D" } : MethodName) ({ cls := "HumpYardModel", name := "fastest", desc := "()D" } : MethodName)) ∈ WS := WS_m4 (i := 131) rfl rfl
theorem kc_X3_fastest : (Cond.code ({ cls := "HumpYardModel", name := "fastest", desc := "()D" } : MethodName) prog_5_method_35_code (1 : Nat) (Option.some ClassFile.FieldType.double)) ∈ WS := WS_m4 (i := 132) rfl rfl
theorem kd_L_65 : (Cond.constantDouble "HumpYardLaw" (65 : Nat) (4593671619917905920 : UInt64)) ∈ WS := WS_m4 (i := 133) rfl rfl
theorem ka_long : (Cond.arrayClass ClassFile.FieldType.long) ∈ WS := WS_m4 (i := 134) rfl rfl
theorem kv_Object_getClass_42d1_9 : (Cond.selects "[Ljava/lang/Object;" ({ cls := "java/lang/Object", name := "getClass", desc := "()Ljava/lang/Class;" } : MethodName) ({ cls := "java/lang/Object", name := "getClass", desc := "()Ljava/lang/Class;" } : MethodName)) ∈ WS := WS_m4 (i := 138) rfl rfl
theorem inW_X0 : ∀ w ∈ u_ws RX0 TX0 10, w ∈ WS := fun w h => List.mem_filter.mpr ⟨(by decide +kernel : ∀ w ∈ u_ws RX0 TX0 10, w ∈ lw_tbl) w h, (by decide +kernel : ∀ w ∈ u_ws RX0 TX0 10, goodWord w = true) w h⟩
theorem inW_X1 : ∀ w ∈ u_ws RX1 TX1 2, w ∈ WS := fun w h => List.mem_filter.mpr ⟨(by decide +kernel : ∀ w ∈ u_ws RX1 TX1 2, w ∈ lw_tbl) w h, (by decide +kernel : ∀ w ∈ u_ws RX1 TX1 2, goodWord w = true) w h⟩
theorem inW_X2 : ∀ w ∈ u_ws RX2 TX2 16, w ∈ WS := fun w h => List.mem_filter.mpr ⟨(by decide +kernel : ∀ w ∈ u_ws RX2 TX2 16, w ∈ lw_tbl) w h, (by decide +kernel : ∀ w ∈ u_ws RX2 TX2 16, goodWord w = true) w h⟩
theorem inW_X3 : ∀ w ∈ u_ws RX3 TX3 24, w ∈ WS := fun w h => List.mem_filter.mpr ⟨(by decide +kernel : ∀ w ∈ u_ws RX3 TX3 24, w ∈ lw_tbl) w h, (by decide +kernel : ∀ w ∈ u_ws RX3 TX3 24, goodWord w = true) w h⟩
theorem inW_Jx4a65c : ∀ w ∈ u_ws RJx4a65c TJx4a65c 3, w ∈ WS := fun w h => List.mem_filter.mpr ⟨(by decide +kernel : ∀ w ∈ u_ws RJx4a65c TJx4a65c 3, w ∈ lw_tbl) w h, (by decide +kernel : ∀ w ∈ u_ws RJx4a65c TJx4a65c 3, goodWord w = true) w h⟩
end
section
section BASE
abbrev GT : Type := va_G × (Nat → ClassId)
abbrev classes : List vw_C := [(RX0, TX0, 10), (RX1, TX1, 2), (RX2, TX2, 16), (RX3, TX3, 24), (RJx4a65c, TJx4a65c, 3)]
abbrev tys (G : GT) : List (ClassId × FieldType) := [(G.2 0, .int), (G.2 1, .double), (G.2 2, .boolean), (G.2 3, .object "java/lang/Object"), (G.2 4, .long)]
/-- what the tables say at Z, the start of the law -/
def ZOK (G : GT) (Z : State) : Prop := (∀ w ∈ WS, w.before #[] Z = true) ∧ va_K G.1 classes (tys G) Z ∧ va_Nw (.methodLinkNest RX0 45 yX2_leadsTo RX2) Z ∧ va_Nw (.methodLinkNest RX0 49 yX2_nodeBehind RX2) Z ∧ va_Nw (.methodLinkNest RX2 21 yX1_init RX2) Z ∧ va_Nw (.castable RX0 RX0) Z
/-- a state that holds the world w, all of it made behind Z -/
def IN (G : GT) (Z : State) (w : va_W) (U : State) : Prop := va_P G.1 classes w U.heap ∧ va_D (fun q => Z.heap.size ≤ q) w ∧ Z.WarmedH U.vm ∧ Z.heap.size ≤ U.heap.size ∧ ∀ q : Nat, q < Z.heap.size → U.heap[q]? = Z.heap[q]?
def QM (G : GT) (Z : State) (ws : va_W) (sz : Nat) (post : Option Value → va_W → Prop) : Array Value → State → Outcome → State → Prop := fun _ st o t =>
  (∃ (v : Option Value) (w : va_W), o = .returned v ∧ post v w ∧ IN G Z w t ∧ va_D (va_A ws sz) w) ∧ va_F (va_A ws sz) st t
/-- the contract of a method that returns: world ws before, (answer, world) as post says behind -/
def CM (l : Launch) (G : GT) (Z : State) (y : MethodName) (cc : ByteArray) (n : Nat) (ret : Option FieldType) (rm : Room) (av : List Value) (ws : va_W) (post : Option Value → va_W → Prop) : Prop :=
  ∀ sz : Nat, Met l y [.code y cc n ret] rm (va_Pc av (fun U => U.heap.size = sz ∧ IN G Z ws U)) (QM G Z ws sz post) rm.cells rm.slots (va_A ws sz)
/-- within a body -/
def Cx (G : GT) (Z : State) (ws0 : va_W) (p : Program) (s : State) (m : MethodId) (args : Array Value) (meth : Method) (c : Code) (own : String) (cc : ByteArray) (nL : Nat) (ret : Option FieldType) : Prop :=
  CallFix p m c cc nL s args WS own ∧ meth.sig.returnType = ret ∧ va_K G.1 classes (tys G) s ∧ meth.locks = false ∧ Z.WarmedH s.vm ∧ va_D (fun q => Z.heap.size ≤ q) ws0 ∧ Z.heap.size ≤ s.heap.size ∧ (∀ q : Nat, q < Z.heap.size → s.heap[q]? = Z.heap[q]?) ∧ ZOK G Z
def Hp (G : GT) (ws0 : va_W) (s : State) (H : Heap) (locs : List Loc) (w : va_W) : Prop := va_P G.1 classes w H ∧ va_D (va_A ws0 s.heap.size) w ∧ va_S (va_A ws0 s.heap.size) s.heap H locs
theorem gi1 {w : Cond} (h : w ∈ WS) : GoodIn WS [w] := fun x hx => by rw [List.mem_singleton.mp hx]; exact ⟨h, good_of_word (WS_good h)⟩
variable {l : Launch} {G : GT} {Z : State} {ws0 w : va_W} {p : Program} {e : Env} {R : Room} {s : State} {m : MethodId} {args : Array Value} {below : List Frame} {meth : Method} {c : Code} {H : Heap} {locs : List Loc} {cells slots : Nat} {Q : State → Prop} {own : String} {cc : ByteArray} {nL : Nat} {ret : Option FieldType} {pc : Nat} {ls : Array Slot} {rest : List Value} {post : Option Value → va_W → Prop}
theorem A_ge (hD : va_D (fun q => Z.heap.size ≤ q) ws0) (hz : Z.heap.size ≤ s.heap.size) {q : Nat} (h : va_A ws0 s.heap.size q) : Z.heap.size ≤ q := by
  rcases h with ⟨k, e, h⟩ | h
  · exact hD.2 k (q, e) h
  · exact Nat.le_trans hz h
theorem Cx.hx (C : Cx G Z ws0 p s m args meth c own cc nL ret) : p.tables.exec = Jvm.exec := C.1.1
theorem Cx.hb (C : Cx G Z ws0 p s m args meth c own cc nL ret) : c.code = cc := C.1.2.1
theorem Cx.hml (C : Cx G Z ws0 p s m args meth c own cc nL ret) : c.maxLocals = nL := C.1.2.2.1
theorem Cx.hown (C : Cx G Z ws0 p s m args meth c own cc nL ret) : s.vm.findClass own = some m.cls := C.1.2.2.2.1
theorem Cx.hts (C : Cx G Z ws0 p s m args meth c own cc nL ret) : ∀ w ∈ WS, w.before args s = true := C.1.2.2.2.2
theorem Cx.hr (C : Cx G Z ws0 p s m args meth c own cc nL ret) : meth.sig.returnType = ret := C.2.1
theorem Cx.hK (C : Cx G Z ws0 p s m args meth c own cc nL ret) : va_K G.1 classes (tys G) s := C.2.2.1
theorem Cx.hlk (C : Cx G Z ws0 p s m args meth c own cc nL ret) : meth.locks = false := C.2.2.2.1
theorem Cx.hW (C : Cx G Z ws0 p s m args meth c own cc nL ret) : Z.WarmedH s.vm := C.2.2.2.2.1
theorem Cx.hD (C : Cx G Z ws0 p s m args meth c own cc nL ret) : va_D (fun q => Z.heap.size ≤ q) ws0 := C.2.2.2.2.2.1
theorem Cx.hz (C : Cx G Z ws0 p s m args meth c own cc nL ret) : Z.heap.size ≤ s.heap.size := C.2.2.2.2.2.2.1
theorem Cx.ho (C : Cx G Z ws0 p s m args meth c own cc nL ret) : ∀ q : Nat, q < Z.heap.size → s.heap[q]? = Z.heap[q]? := C.2.2.2.2.2.2.2.1
theorem Cx.hZ (C : Cx G Z ws0 p s m args meth c own cc nL ret) : ZOK G Z := C.2.2.2.2.2.2.2.2
theorem Hp.S (h : Hp G ws0 s H locs w) : va_S (va_A ws0 s.heap.size) s.heap H locs := h.2.2
theorem Hp_in (C : Cx G Z ws0 p s m args meth c own cc nL ret) (h : Hp G ws0 s H locs w) {t : State} (ht : t.heap = H) (hW : s.WarmedH t.vm) : IN G Z w t := by
  refine ⟨by rw [ht]; exact h.1, h.2.1.weaken (fun k q _ hq => A_ge C.hD C.hz hq), State.WarmedH.trans C.hW hW, ?_, fun q hq => ?_⟩
  · rw [ht]; exact Nat.le_trans C.hz h.2.2.1
  · rw [ht, h.2.2.2.1 q (Nat.lt_of_lt_of_le hq C.hz) (fun hA => absurd (A_ge C.hD C.hz hA) (Nat.not_le.mpr hq))]
    exact C.ho q hq
theorem Hp_end (C : Cx G Z ws0 p s m args meth c own cc nL ret) (h : Hp G ws0 s H locs w) {t : State} (ht : t.heap = H) (hW : s.WarmedH t.vm) {v : Option Value} (hp : post v w) {a : Array Value} : QM G Z ws0 s.heap.size post a s (.returned v) t :=
  ⟨⟨v, w, rfl, hp, Hp_in C h ht hW, h.2.1⟩, h.2.2.F ht⟩
theorem CM_ofW {y : MethodName} {n : Nat} {rm : Room} {av : List Value} {ws : va_W} (hZ : ZOK G Z) (hy : plainName y.cls = true) (hlen : (lg_sl av).length ≤ n)
    (body : ∀ (p : Program) (e : Env) (s : State) (m : MethodId) (below : List Frame) (meth : Method) (c : Code) (ls : Array Slot), Cx G Z ws p s m av.toArray meth c y.cls cc n ret → Hp G ws s s.heap [] ws → lv_has ls n (lv_args 0 av) → meth.name = y.name →
      W p l e rm s m av.toArray below meth c s.heap [] 0 0 (MQ below (QM G Z ws s.heap.size post) av.toArray s rm.cells rm.slots (va_A ws s.heap.size)) (F0 m 0 ls [])) : CM l G Z y cc n ret rm av ws post := by
  intro sz
  refine Met.ofW (cc := cc) (maxL := n) (ret := ret) hy rfl ?_
  intro p e s m args below meth c s₁ B hml hv
  obtain ⟨rfl, rfl, hP, hD, hW, hz, ho⟩ := hv
  have hts : ∀ w ∈ WS, w.before av.toArray s = true := fun w hw => word_at hW (good_of_word (WS_good hw)) (hZ.1 w hw)
  have hl := lv_entry av (n := n) hlen
  rw [lg_entry_eq]
  exact body p e s m below meth c _ ⟨⟨B.exec, B.bytes, hml, findClass_of_methodNamed B.named, hts⟩, B.returns, va_K.moved hW.alike hZ.2.1, B.notSynchronized, hW, hD, hz, ho, hZ⟩ ⟨hP, hD.self, va_S.rf⟩ hl (name_of_methodNamed B.named B.method).1
theorem r_iret {v : Int32} (C : Cx G Z ws0 p s m args meth c own cc nL (some .int)) (h : Hp G ws0 s H locs w) (hd : decode cc pc = .ok (.ireturn, 1)) (hp : post (some (.int v)) w) : W p l e R s m args below meth c H locs cells slots (MQ below (QM G Z ws0 s.heap.size post) args s cells slots (va_A ws0 s.heap.size)) (F0 m pc ls [.int v]) :=
  W.iret C.hx C.hb C.hr (fun t ht hW => Hp_end C h ht hW hp) h.2.2.2.2 hd C.hlk
theorem r_zret {v : Int32} {ty : FieldType} (C : Cx G Z ws0 p s m args meth c own cc nL (some ty)) (h : Hp G ws0 s H locs w) (hd : decode cc pc = .ok (.ireturn, 1)) (hn : narrow ty (.int v) = .int v) (hp : post (some (.int v)) w) : W p l e R s m args below meth c H locs cells slots (MQ below (QM G Z ws0 s.heap.size post) args s cells slots (va_A ws0 s.heap.size)) (F0 m pc ls [.int v]) :=
  W.zret C.hx C.hb C.hr hn (fun t ht hW => Hp_end C h ht hW hp) h.2.2.2.2 hd C.hlk
theorem r_dret {v : UInt64} (C : Cx G Z ws0 p s m args meth c own cc nL (some .double)) (h : Hp G ws0 s H locs w) (hd : decode cc pc = .ok (.dreturn, 1)) (hp : post (some (.double v)) w) : W p l e R s m args below meth c H locs cells slots (MQ below (QM G Z ws0 s.heap.size post) args s cells slots (va_A ws0 s.heap.size)) (F0 m pc ls [.double v]) :=
  W.dret C.hx C.hb C.hr (fun t ht hW => Hp_end C h ht hW hp) h.2.2.2.2 hd C.hlk
theorem r_vret (C : Cx G Z ws0 p s m args meth c own cc nL none) (h : Hp G ws0 s H locs w) (hd : decode cc pc = .ok (.return_, 1)) (hp : post none w) : W p l e R s m args below meth c H locs cells slots (MQ below (QM G Z ws0 s.heap.size post) args s cells slots (va_A ws0 s.heap.size)) (F0 m pc ls []) :=
  W.vret C.hx C.hb C.hr (fun t ht hW => Hp_end C h ht hW hp) h.2.2.2.2 hd C.hlk
theorem r_aret {v : Value} {rt : FieldType} (C : Cx G Z ws0 p s m args meth c own cc nL (some rt)) (h : Hp G ws0 s H locs w) (hrt : (∃ n, rt = .object n) ∨ ∃ t, rt = .array t) (hv : v = .null ∨ ∃ a, v = .ref a) (hd : decode cc pc = .ok (.areturn, 1)) (hp : post (some v) w) : W p l e R s m args below meth c H locs cells slots (MQ below (QM G Z ws0 s.heap.size post) args s cells slots (va_A ws0 s.heap.size)) (F0 m pc ls [v]) :=
  W.aret C.hx C.hb C.hr hrt hv (fun t ht hW => Hp_end C h ht hW hp) h.2.2.2.2 hd C.hlk
/-- a call whose callee has the whole world -/
theorem r_run {mc ms : Nat} {st0 : List Value} {a : Array Value} (h : Hp G ws0 s H locs w) (hr : va_Run p l e R s m args below meth c H locs cells slots mc ms (F0 m pc ls st0) rest (QM G Z w H.size post a) (va_A w H.size))
    (kk : ∀ (v : Option Value) (w' : va_W) (H1 : Heap) (locs1 : List Loc), post v w' → Hp G ws0 s H1 locs1 w' → W p l e R s m args below meth c H1 locs1 (cells + mc) (slots + ms) Q (F0 m (pc + 3) ls (v.toList ++ rest))) : W p l e R s m args below meth c H locs cells slots Q (F0 m pc ls st0) := by
  intro T hT X
  obtain ⟨v, st₀, t, T', L, h0, X', hL, e1, e2, ⟨⟨v', w', hv, hp, hI, hDw⟩, hF⟩, st⟩ := hr T hT X
  cases hv
  obtain ⟨hz, hk⟩ := hF
  rw [h0] at hz hk
  have hsub : ∀ q, va_A w H.size q → va_A ws0 s.heap.size q := by
    intro q hq
    rcases hq with ⟨k, e, hq⟩ | hq
    · exact h.2.1.2 k (q, e) hq
    · exact Or.inr (Nat.le_trans h.2.2.1 hq)
  have hS : va_S (va_A ws0 s.heap.size) s.heap T'.heap (locs ++ L) := by
    refine ⟨Nat.le_trans h.2.2.1 (by rw [e1]; exact hz), fun q h1 h2 => ?_, fun q hq => ?_⟩
    · rw [e1, hk q (Nat.lt_of_lt_of_le h1 h.2.2.1) (fun z => h2 (hsub q z))]
      exact h.2.2.2.1 q h1 h2
    · rcases List.mem_append.mp hq with h9 | h9
      · exact h.2.2.2.2 q h9
      · exact hsub _ (hL q h9)
  obtain ⟨t2, a1, b1⟩ := kk v w' T'.heap (locs ++ L) hp ⟨by rw [e1]; exact hI.1, hDw.weaken (fun k q _ hq => hsub _ hq), hS⟩ T' rfl X'
  exact ⟨t2, st t2 a1, b1⟩
def MFs (y : MethodName) (bytes : ByteArray) (maxL : Nat) (ret : Option FieldType) (n : Nat) : Prop := Cond.code y bytes maxL ret ∈ WS ∧ Cond.static y ∈ WS ∧ Cond.initialized y.cls ∈ WS ∧ (y.cls ≠ "java/lang/invoke/MethodHandle" ∧ y.cls ≠ "java/lang/invoke/VarHandle" ∧ (parseMethodDescriptor y.desc).map (fun d => d.parameters.length) = some n)
def MFv (y : MethodName) (bytes : ByteArray) (maxL : Nat) (ret : Option FieldType) (n : Nat) : Prop := Cond.code y bytes maxL ret ∈ WS ∧ Cond.instanceMethod y ∈ WS ∧ Cond.selects y.cls y y ∈ WS ∧ Cond.initialized y.cls ∈ WS ∧ (y.cls ≠ "java/lang/invoke/MethodHandle" ∧ y.cls ≠ "java/lang/invoke/VarHandle" ∧ (parseMethodDescriptor y.desc).map (fun d => d.parameters.length) = some n)
def MFi (y : MethodName) (bytes : ByteArray) (maxL : Nat) (n : Nat) : Prop := Cond.code y bytes maxL none ∈ WS ∧ Cond.instanceMethod y ∈ WS ∧ Cond.initialized y.cls ∈ WS ∧ y.name = "<init>" ∧ (y.cls ≠ "java/lang/invoke/MethodHandle" ∧ y.cls ≠ "java/lang/invoke/VarHandle" ∧ (parseMethodDescriptor y.desc).map (fun d => d.parameters.length) = some n)
theorem pre_in (C : Cx G Z ws0 p s m args meth c own cc nL ret) (h : Hp G ws0 s H locs w) {As : List Value} : PreS s H (va_Pc As (fun U => U.heap.size = H.size ∧ IN G Z w U)) As :=
  ⟨fun _ _ _ _ q => q, fun U hU hW => ⟨rfl, by rw [hU], Hp_in C h hU hW⟩⟩
theorem r_callS {y : MethodName} {bytes : ByteArray} {maxL n index : Nat} {ret' : Option FieldType} {rm : Room} {As st0 : List Value} (hM : CM l G Z y bytes maxL ret' rm As w post) (C : Cx G Z ws0 p s m args meth c own cc nL ret) (h : Hp G ws0 s H locs w) (F : MFs y bytes maxL ret' n) (km : Cond.methodLink own index y ∈ WS) (hls : ls.size = nL) (hd : decode cc pc = .ok (.invokestatic index, 3)) (hR : rm.frames + 1 ≤ R.frames ∧ 8 + (maxL + 11) + rm.locals ≤ R.locals ∧ cells + rm.cells ≤ R.cells ∧ slots + rm.slots ≤ R.slots) (hn : As.length = n) (hst : st0 = As.reverse ++ rest) (hW : (rest.map fun v => v.category).sum ≤ 8)
    (kk : ∀ (v : Option Value) (w' : va_W) (H1 : Heap) (locs1 : List Loc), post v w' → Hp G ws0 s H1 locs1 w' → W p l e R s m args below meth c H1 locs1 (cells + rm.cells) (slots + rm.slots) Q (F0 m (pc + 3) ls (v.toList ++ rest))) : W p l e R s m args below meth c H locs cells slots Q (F0 m pc ls st0) :=
  r_run h (va_runS (As := As) (rest := rest) C.1 (hM H.size) ⟨callB_of n C.hts (gi1 F.1) rfl rfl rfl (C.hts _ F.2.2.1) (C.hts _ km) F.2.2.2 ⟨hR.1, hR.2.1⟩, C.hts _ F.2.1⟩ (pre_in C h) rfl hn hls hst (lv_room hW) hd hR.2.2) kk
theorem r_callV {y : MethodName} {bytes : ByteArray} {maxL n index q0 ci N b : Nat} {T : u_T} {fs : List Value} {ret' : Option FieldType} {rm : Room} {As st0 : List Value} (hM : CM l G Z y bytes maxL ret' rm (.ref b :: As) w post) (C : Cx G Z ws0 p s m args meth c own cc nL ret) (h : Hp G ws0 s H locs w) (F : MFv y bytes maxL ret' n) (km : Cond.methodLink own index y ∈ WS) (hls : ls.size = nL) (hd : decode cc pc = .ok (.invokevirtual index, 3)) (hb : w[q0]? = some (b, .inr (ci, fs))) (hc : classes[ci]? = some (y.cls, T, N)) (hR : rm.frames + 1 ≤ R.frames ∧ 8 + (maxL + 11) + rm.locals ≤ R.locals ∧ cells + rm.cells ≤ R.cells ∧ slots + rm.slots ≤ R.slots) (hn : As.length = n) (hst : st0 = As.reverse ++ .ref b :: rest) (hW : (rest.map fun v => v.category).sum ≤ 8)
    (kk : ∀ (v : Option Value) (w' : va_W) (H1 : Heap) (locs1 : List Loc), post v w' → Hp G ws0 s H1 locs1 w' → W p l e R s m args below meth c H1 locs1 (cells + rm.cells) (slots + rm.slots) Q (F0 m (pc + 3) ls (v.toList ++ rest))) : W p l e R s m args below meth c H locs cells slots Q (F0 m pc ls st0) :=
  r_run h (va_runV (As := As) (rest := rest) (b := b) (C := y.cls) C.1 (hM H.size) ⟨callB_of n C.hts (gi1 F.1) rfl rfl rfl (C.hts _ F.2.2.2.1) (C.hts _ km) F.2.2.2.2 ⟨hR.1, hR.2.1⟩, C.hts _ F.2.1, C.hts _ F.2.2.1⟩ ⟨(pre_in C h).1, va_recv C.hK h.1 hc hb, (pre_in C h).2⟩ rfl hn hls hst (lv_room hW) hd hR.2.2) kk
theorem r_callI {y : MethodName} {bytes : ByteArray} {maxL n index b : Nat} {rm : Room} {As st0 : List Value} (hM : CM l G Z y bytes maxL none rm (.ref b :: As) w post) (C : Cx G Z ws0 p s m args meth c own cc nL ret) (h : Hp G ws0 s H locs w) (F : MFi y bytes maxL n) (km : Cond.methodLink own index y ∈ WS) (hls : ls.size = nL) (hd : decode cc pc = .ok (.invokespecial index, 3)) (hR : rm.frames + 1 ≤ R.frames ∧ 8 + (maxL + 11) + rm.locals ≤ R.locals ∧ cells + rm.cells ≤ R.cells ∧ slots + rm.slots ≤ R.slots) (hn : As.length = n) (hst : st0 = As.reverse ++ .ref b :: rest) (hW : (rest.map fun v => v.category).sum ≤ 8)
    (kk : ∀ (v : Option Value) (w' : va_W) (H1 : Heap) (locs1 : List Loc), post v w' → Hp G ws0 s H1 locs1 w' → W p l e R s m args below meth c H1 locs1 (cells + rm.cells) (slots + rm.slots) Q (F0 m (pc + 3) ls (v.toList ++ rest))) : W p l e R s m args below meth c H locs cells slots Q (F0 m pc ls st0) :=
  r_run h (va_runI (As := As) (rest := rest) (b := b) C.1 (hM H.size) ⟨callB_of n C.hts (gi1 F.1) rfl rfl rfl (C.hts _ F.2.2.1) (C.hts _ km) F.2.2.2.2 ⟨hR.1, hR.2.1⟩, F.2.2.2.1, C.hts _ F.2.1⟩ (pre_in C h) rfl hn hls hst (lv_room hW) hd hR.2.2) kk
/-- nest mates -/
theorem r_callSN {y : MethodName} {bytes : ByteArray} {maxL n index : Nat} {host : String} {ret' : Option FieldType} {rm : Room} {As st0 : List Value} (hM : CM l G Z y bytes maxL ret' rm As w post) (C : Cx G Z ws0 p s m args meth c own cc nL ret) (h : Hp G ws0 s H locs w) (F : MFs y bytes maxL ret' n) (km : va_Nw (.methodLinkNest own index y host) Z) (hls : ls.size = nL) (hd : decode cc pc = .ok (.invokestatic index, 3)) (hR : rm.frames + 1 ≤ R.frames ∧ 8 + (maxL + 11) + rm.locals ≤ R.locals ∧ cells + rm.cells ≤ R.cells ∧ slots + rm.slots ≤ R.slots) (hn : As.length = n) (hst : st0 = As.reverse ++ rest) (hW : (rest.map fun v => v.category).sum ≤ 8)
    (kk : ∀ (v : Option Value) (w' : va_W) (H1 : Heap) (locs1 : List Loc), post v w' → Hp G ws0 s H1 locs1 w' → W p l e R s m args below meth c H1 locs1 (cells + rm.cells) (slots + rm.slots) Q (F0 m (pc + 3) ls (v.toList ++ rest))) : W p l e R s m args below meth c H locs cells slots Q (F0 m pc ls st0) :=
  r_run h (va_runSN (As := As) (rest := rest) (host := host) C.1 (hM H.size) ⟨va_cnB n C.hts (gi1 F.1) rfl rfl rfl (va_Nw.warmM C.hW km) (C.hts _ F.2.2.1) F.2.2.2 ⟨hR.1, hR.2.1⟩, C.hts _ F.2.1, trivial⟩ (pre_in C h) rfl hn hls hst (lv_room hW) hd hR.2.2) kk
theorem r_callIN {y : MethodName} {bytes : ByteArray} {maxL n index b : Nat} {host : String} {rm : Room} {As st0 : List Value} (hM : CM l G Z y bytes maxL none rm (.ref b :: As) w post) (C : Cx G Z ws0 p s m args meth c own cc nL ret) (h : Hp G ws0 s H locs w) (F : MFi y bytes maxL n) (km : va_Nw (.methodLinkNest own index y host) Z) (hls : ls.size = nL) (hd : decode cc pc = .ok (.invokespecial index, 3)) (hR : rm.frames + 1 ≤ R.frames ∧ 8 + (maxL + 11) + rm.locals ≤ R.locals ∧ cells + rm.cells ≤ R.cells ∧ slots + rm.slots ≤ R.slots) (hn : As.length = n) (hst : st0 = As.reverse ++ .ref b :: rest) (hW : (rest.map fun v => v.category).sum ≤ 8)
    (kk : ∀ (v : Option Value) (w' : va_W) (H1 : Heap) (locs1 : List Loc), post v w' → Hp G ws0 s H1 locs1 w' → W p l e R s m args below meth c H1 locs1 (cells + rm.cells) (slots + rm.slots) Q (F0 m (pc + 3) ls (v.toList ++ rest))) : W p l e R s m args below meth c H locs cells slots Q (F0 m pc ls st0) :=
  r_run h (va_runIN (As := As) (rest := rest) (b := b) (host := host) C.1 (hM H.size) ⟨va_cnB n C.hts (gi1 F.1) rfl rfl rfl (va_Nw.warmM C.hW km) (C.hts _ F.2.2.1) F.2.2.2.2 ⟨hR.1, hR.2.1⟩, F.2.2.2.1, C.hts _ F.2.1⟩ (pre_in C h) rfl hn hls hst (lv_room hW) hd hR.2.2) kk
/-- fields and arrays -/
theorem r_get {index q0 ci N a : Nat} {T : u_T} {Cn : String} {fs : List Value} {v : Value} (k : Nat) (C : Cx G Z ws0 p s m args meth c own cc nL ret) (h : Hp G ws0 s H locs w) (hb : w[q0]? = some (a, .inr (ci, fs))) (hc : classes[ci]? = some (Cn, T, N)) (hin : ∀ x ∈ u_ws Cn T N, x ∈ WS) (hk : k < N) (kf : Cond.fieldLink own index (T k).1 (T k).2.1 (T k).2.2.1 ∈ WS) (hv : fs[k]? = some v) (hd : decode cc pc = .ok (.getfield index, 3)) (kk : W p l e R s m args below meth c H locs cells slots Q (F0 m (pc + 3) ls (v :: rest))) : W p l e R s m args below meth c H locs cells slots Q (F0 m pc ls (.ref a :: rest)) :=
  va_get (D := G.1) (C := Cn) (T := T) (N := N) C.hx C.hb C.hts hin C.hown C.hK h.1 q0 hb hc k hk (C.hts _ kf) (fun _ h9 => h9) hv hd kk
theorem r_put {index q0 ci N a : Nat} {T : u_T} {Cn : String} {fs : List Value} {v : Value} {ty : FieldType} {ty0 : Nat → FieldType} (k : Nat) (C : Cx G Z ws0 p s m args meth c own cc nL ret) (h : Hp G ws0 s H locs w) (hb : w[q0]? = some (a, .inr (ci, fs))) (hc : classes[ci]? = some (Cn, T, N)) (hin : ∀ x ∈ u_ws Cn T N, x ∈ WS) (hty : ∀ k, k < N → parseFieldDescriptor (T k).2.2.1 = some (ty0 k)) (hnm : ∀ a, a < N → ∀ b, b < N → a ≠ b → (T a).2.1 ≠ (T b).2.1) (hk : k < N) (kf : Cond.fieldLink own index (T k).1 (T k).2.1 (T k).2.2.1 ∈ WS) (hfin : (T k).2.2.2 = false) (hpd : parseFieldDescriptor (T k).2.2.1 = some ty) (hn : narrow ty v = v) (hfit : fits ty v = true) (hl : k < fs.length) (hd : decode cc pc = .ok (.putfield index, 3))
    (kk : ∀ (H1 : Heap) (locs1 : List Loc), Hp G ws0 s H1 locs1 (w.set q0 (a, .inr (ci, fs.set k v))) → W p l e R s m args below meth c H1 locs1 cells slots Q (F0 m (pc + 3) ls rest)) : W p l e R s m args below meth c H locs cells slots Q (F0 m pc ls (v :: .ref a :: rest)) :=
  va_put (D := G.1) (C := Cn) (T := T) (N := N) C.hx C.hb C.hts hin ty0 hty hnm C.hown C.hK h.1 h.2.1 h.2.2 q0 hb hc k hk (C.hts _ kf) (fun _ h9 => h9) hfin hpd hn hfit hl hd (fun H1 locs1 a1 a2 a3 => kk H1 locs1 ⟨a1, a2, a3⟩)
theorem r_putF {index q0 ci N a : Nat} {T : u_T} {Cn : String} {fs : List Value} {v : Value} {ty : FieldType} {ty0 : Nat → FieldType} (k : Nat) (C : Cx G Z ws0 p s m args meth c own cc nL ret) (h : Hp G ws0 s H locs w) (hb : w[q0]? = some (a, .inr (ci, fs))) (hc : classes[ci]? = some (Cn, T, N)) (hin : ∀ x ∈ u_ws Cn T N, x ∈ WS) (hty : ∀ k, k < N → parseFieldDescriptor (T k).2.2.1 = some (ty0 k)) (hnm : ∀ a, a < N → ∀ b, b < N → a ≠ b → (T a).2.1 ≠ (T b).2.1) (hk : k < N) (kf : Cond.fieldLink own index (T k).1 (T k).2.1 (T k).2.2.1 ∈ WS) (hfin : (T k).2.2.2 = true) (hin2 : meth.name = "<init>") (hdecl : (T k).1 = own) (hpd : parseFieldDescriptor (T k).2.2.1 = some ty) (hn : narrow ty v = v) (hfit : fits ty v = true) (hl : k < fs.length) (hd : decode cc pc = .ok (.putfield index, 3))
    (kk : ∀ (H1 : Heap) (locs1 : List Loc), Hp G ws0 s H1 locs1 (w.set q0 (a, .inr (ci, fs.set k v))) → W p l e R s m args below meth c H1 locs1 cells slots Q (F0 m (pc + 3) ls rest)) : W p l e R s m args below meth c H locs cells slots Q (F0 m pc ls (v :: .ref a :: rest)) :=
  va_putF (D := G.1) (C := Cn) (T := T) (N := N) C.hx C.hb C.hts hin ty0 hty hnm C.hown C.hK h.1 h.2.1 h.2.2 q0 hb hc k hk (C.hts _ kf) (fun _ h9 => h9) hfin hin2 hdecl hpd hn hfit hl hd (fun H1 locs1 a1 a2 a3 => kk H1 locs1 ⟨a1, a2, a3⟩)
theorem r_iald {q0 n a : Nat} {f : Nat → Int32} {i : Int32} (C : Cx G Z ws0 p s m args meth c own cc nL ret) (h : Hp G ws0 s H locs w) (ha : w[q0]? = some (a, .inl (G.2 0, n, .inl f))) (hd : decode cc pc = .ok (.iaload, 1)) (hin : vp_in i n) (kk : W p l e R s m args below meth c H locs cells slots Q (F0 m (pc + 1) ls (.int (f i.toNatClampNeg) :: rest))) : W p l e R s m args below meth c H locs cells slots Q (F0 m pc ls (.int i :: .ref a :: rest)) :=
  va_iald C.hx C.hb C.hK h.1 q0 0 ha rfl hin hd kk
theorem r_zald {q0 n a : Nat} {f : Nat → Int32} {i : Int32} (C : Cx G Z ws0 p s m args meth c own cc nL ret) (h : Hp G ws0 s H locs w) (ha : w[q0]? = some (a, .inl (G.2 2, n, .inl f))) (hd : decode cc pc = .ok (.baload, 1)) (hin : vp_in i n) (kk : W p l e R s m args below meth c H locs cells slots Q (F0 m (pc + 1) ls (.int (f i.toNatClampNeg) :: rest))) : W p l e R s m args below meth c H locs cells slots Q (F0 m pc ls (.int i :: .ref a :: rest)) :=
  va_zald C.hx C.hb C.hK h.1 q0 2 ha rfl hin hd kk
theorem r_dald {q0 n a : Nat} {f : Nat → UInt64} {i : Int32} (C : Cx G Z ws0 p s m args meth c own cc nL ret) (h : Hp G ws0 s H locs w) (ha : w[q0]? = some (a, .inl (G.2 1, n, .inr (.inr (.inr (.inl f)))))) (hd : decode cc pc = .ok (.daload, 1)) (hin : vp_in i n) (kk : W p l e R s m args below meth c H locs cells slots Q (F0 m (pc + 1) ls (.double (f i.toNatClampNeg) :: rest))) : W p l e R s m args below meth c H locs cells slots Q (F0 m pc ls (.int i :: .ref a :: rest)) :=
  va_dald C.hx C.hb C.hK h.1 q0 1 ha rfl hin hd kk
theorem r_iast {q0 n a : Nat} {f : Nat → Int32} {i x : Int32} (C : Cx G Z ws0 p s m args meth c own cc nL ret) (h : Hp G ws0 s H locs w) (ha : w[q0]? = some (a, .inl (G.2 0, n, .inl f))) (hd : decode cc pc = .ok (.iastore, 1)) (hin : vp_in i n) (kk : ∀ (H1 : Heap) (locs1 : List Loc), Hp G ws0 s H1 locs1 (w.set q0 (a, .inl (G.2 0, n, .inl (upd f i.toNatClampNeg x)))) → W p l e R s m args below meth c H1 locs1 cells slots Q (F0 m (pc + 1) ls rest)) : W p l e R s m args below meth c H locs cells slots Q (F0 m pc ls (.int x :: .int i :: .ref a :: rest)) :=
  va_iast C.hx C.hb C.hK h.1 h.2.1 h.2.2 q0 0 ha rfl hin hd (fun H1 locs1 a1 a2 a3 => kk H1 locs1 ⟨a1, a2, a3⟩)
theorem r_zast {q0 n a : Nat} {f : Nat → Int32} {i x : Int32} (C : Cx G Z ws0 p s m args meth c own cc nL ret) (h : Hp G ws0 s H locs w) (ha : w[q0]? = some (a, .inl (G.2 2, n, .inl f))) (hd : decode cc pc = .ok (.bastore, 1)) (hin : vp_in i n) (kk : ∀ (H1 : Heap) (locs1 : List Loc), Hp G ws0 s H1 locs1 (w.set q0 (a, .inl (G.2 2, n, .inl (upd f i.toNatClampNeg (vp_nar .boolean x))))) → W p l e R s m args below meth c H1 locs1 cells slots Q (F0 m (pc + 1) ls rest)) : W p l e R s m args below meth c H locs cells slots Q (F0 m pc ls (.int x :: .int i :: .ref a :: rest)) :=
  va_zast C.hx C.hb C.hK h.1 h.2.1 h.2.2 q0 2 ha rfl hin hd (fun H1 locs1 a1 a2 a3 => kk H1 locs1 ⟨a1, a2, a3⟩)
theorem r_dast {q0 n a : Nat} {f : Nat → UInt64} {i : Int32} {x : UInt64} (C : Cx G Z ws0 p s m args meth c own cc nL ret) (h : Hp G ws0 s H locs w) (ha : w[q0]? = some (a, .inl (G.2 1, n, .inr (.inr (.inr (.inl f)))))) (hd : decode cc pc = .ok (.dastore, 1)) (hin : vp_in i n) (kk : ∀ (H1 : Heap) (locs1 : List Loc), Hp G ws0 s H1 locs1 (w.set q0 (a, .inl (G.2 1, n, .inr (.inr (.inr (.inl (vf_upd f i.toNatClampNeg x))))))) → W p l e R s m args below meth c H1 locs1 cells slots Q (F0 m (pc + 1) ls rest)) : W p l e R s m args below meth c H locs cells slots Q (F0 m pc ls (.double x :: .int i :: .ref a :: rest)) :=
  va_dast C.hx C.hb C.hK h.1 h.2.1 h.2.2 q0 1 ha rfl hin hd (fun H1 locs1 a1 a2 a3 => kk H1 locs1 ⟨a1, a2, a3⟩)
end BASE
end
