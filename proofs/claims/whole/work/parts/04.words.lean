def WS : List Cond := lw_tbl.filter goodWord
theorem WS_good {w : Cond} (h : w ∈ WS) : goodWord w = true := (List.mem_filter.mp h).2
theorem WS_m0 {w : Cond} {i : Nat} (h : (k2_sels lw_privs)[i]? = some w) (g : goodWord w = true) : w ∈ WS := List.mem_filter.mpr ⟨List.mem_append_left _ (List.mem_of_getElem? h), g⟩
theorem WS_m1 {w : Cond} {i : Nat} (h : tables_1_1[i]? = some w) (g : goodWord w = true) : w ∈ WS := List.mem_filter.mpr ⟨List.mem_append_right _ (List.mem_append_left _ (List.mem_of_getElem? h)), g⟩
theorem WS_m2 {w : Cond} {i : Nat} (h : tables_1_2[i]? = some w) (g : goodWord w = true) : w ∈ WS := List.mem_filter.mpr ⟨List.mem_append_right _ (List.mem_append_right _ (List.mem_append_left _ (List.mem_of_getElem? h))), g⟩
theorem WS_m3 {w : Cond} {i : Nat} (h : tables_1_3[i]? = some w) (g : goodWord w = true) : w ∈ WS := List.mem_filter.mpr ⟨List.mem_append_right _ (List.mem_append_right _ (List.mem_append_right _ (List.mem_append_left _ (List.mem_of_getElem? h)))), g⟩
theorem WS_m4 {w : Cond} {i : Nat} (h : tables_1_4[i]? = some w) (g : goodWord w = true) : w ∈ WS := List.mem_filter.mpr ⟨List.mem_append_right _ (List.mem_append_right _ (List.mem_append_right _ (List.mem_append_right _ (List.mem_of_getElem? h)))), g⟩
theorem kv_java_lang_Throwable_fillInStackTrace : (Cond.selects "java/lang/Throwable" ({ cls := "java/lang/Throwable", name := "fillInStackTrace", desc := "(I)Ljava/lang/Throwable;" } : MethodName) ({ cls := "java/lang/Throwable", name := "fillInStackTrace", desc := "(I)Ljava/lang/Throwable;" } : MethodName)) ∈ WS := WS_m0 (i := 0) rfl rfl
theorem kv_Jx4a65c_add_72be8 : (Cond.selects "java/util/ArrayList" ({ cls := "java/util/ArrayList", name := "add", desc := "(Ljava/lang/Object;[Ljava/lang/Object;I)V" } : MethodName) ({ cls := "java/util/ArrayList", name := "add", desc := "(Ljava/lang/Object;[Ljava/lang/Object;I)V" } : MethodName)) ∈ WS := WS_m0 (i := 1) rfl rfl
theorem kv_Jx4a65c_grow_d5877 : (Cond.selects "java/util/ArrayList" ({ cls := "java/util/ArrayList", name := "grow", desc := "()[Ljava/lang/Object;" } : MethodName) ({ cls := "java/util/ArrayList", name := "grow", desc := "()[Ljava/lang/Object;" } : MethodName)) ∈ WS := WS_m0 (i := 2) rfl rfl
theorem kv_Jx4a65c_grow_92f84 : (Cond.selects "java/util/ArrayList" ({ cls := "java/util/ArrayList", name := "grow", desc := "(I)[Ljava/lang/Object;" } : MethodName) ({ cls := "java/util/ArrayList", name := "grow", desc := "(I)[Ljava/lang/Object;" } : MethodName)) ∈ WS := WS_m0 (i := 3) rfl rfl
theorem kv_X2_goOnTurning : (Cond.selects "HumpYard" ({ cls := "HumpYard", name := "goOnTurning", desc := "()V" } : MethodName) ({ cls := "HumpYard", name := "goOnTurning", desc := "()V" } : MethodName)) ∈ WS := WS_m0 (i := 4) rfl rfl
theorem kv_X2_beginTurning : (Cond.selects "HumpYard" ({ cls := "HumpYard", name := "beginTurning", desc := "()V" } : MethodName) ({ cls := "HumpYard", name := "beginTurning", desc := "()V" } : MethodName)) ∈ WS := WS_m0 (i := 5) rfl rfl
theorem kv_X2_isBusy : (Cond.selects "HumpYard" ({ cls := "HumpYard", name := "isBusy", desc := "(I)Z" } : MethodName) ({ cls := "HumpYard", name := "isBusy", desc := "(I)Z" } : MethodName)) ∈ WS := WS_m0 (i := 6) rfl rfl
theorem kv_X2_firstBoundFor : (Cond.selects "HumpYard" ({ cls := "HumpYard", name := "firstBoundFor", desc := "(I)LHumpYard$Cut;" } : MethodName) ({ cls := "HumpYard", name := "firstBoundFor", desc := "(I)LHumpYard$Cut;" } : MethodName)) ∈ WS := WS_m0 (i := 7) rfl rfl
theorem kv_X2_rollAll : (Cond.selects "HumpYard" ({ cls := "HumpYard", name := "rollAll", desc := "()V" } : MethodName) ({ cls := "HumpYard", name := "rollAll", desc := "()V" } : MethodName)) ∈ WS := WS_m0 (i := 8) rfl rfl
theorem kv_X2_acceleration : (Cond.selects "HumpYard" ({ cls := "HumpYard", name := "acceleration", desc := "(LHumpYard$Cut;)D" } : MethodName) ({ cls := "HumpYard", name := "acceleration", desc := "(LHumpYard$Cut;)D" } : MethodName)) ∈ WS := WS_m0 (i := 9) rfl rfl
theorem kv_X2_brakeSteps : (Cond.selects "HumpYard" ({ cls := "HumpYard", name := "brakeSteps", desc := "(LHumpYard$Cut;II)I" } : MethodName) ({ cls := "HumpYard", name := "brakeSteps", desc := "(LHumpYard$Cut;II)I" } : MethodName)) ∈ WS := WS_m0 (i := 10) rfl rfl
theorem kv_X2_passPoints : (Cond.selects "HumpYard" ({ cls := "HumpYard", name := "passPoints", desc := "(LHumpYard$Cut;D)V" } : MethodName) ({ cls := "HumpYard", name := "passPoints", desc := "(LHumpYard$Cut;D)V" } : MethodName)) ∈ WS := WS_m0 (i := 11) rfl rfl
theorem kv_X2_pass : (Cond.selects "HumpYard" ({ cls := "HumpYard", name := "pass", desc := "(LHumpYard$Cut;I)V" } : MethodName) ({ cls := "HumpYard", name := "pass", desc := "(LHumpYard$Cut;I)V" } : MethodName)) ∈ WS := WS_m0 (i := 12) rfl rfl
theorem kv_X2_catchAll : (Cond.selects "HumpYard" ({ cls := "HumpYard", name := "catchAll", desc := "()V" } : MethodName) ({ cls := "HumpYard", name := "catchAll", desc := "()V" } : MethodName)) ∈ WS := WS_m0 (i := 13) rfl rfl
theorem kv_X2_aheadOf : (Cond.selects "HumpYard" ({ cls := "HumpYard", name := "aheadOf", desc := "(ILHumpYard$Cut;)LHumpYard$Cut;" } : MethodName) ({ cls := "HumpYard", name := "aheadOf", desc := "(ILHumpYard$Cut;)LHumpYard$Cut;" } : MethodName)) ∈ WS := WS_m0 (i := 14) rfl rfl
theorem kv_X2_catchUp : (Cond.selects "HumpYard" ({ cls := "HumpYard", name := "catchUp", desc := "(LHumpYard$Cut;LHumpYard$Cut;)V" } : MethodName) ({ cls := "HumpYard", name := "catchUp", desc := "(LHumpYard$Cut;LHumpYard$Cut;)V" } : MethodName)) ∈ WS := WS_m0 (i := 15) rfl rfl
theorem kv_X2_endAll : (Cond.selects "HumpYard" ({ cls := "HumpYard", name := "endAll", desc := "()V" } : MethodName) ({ cls := "HumpYard", name := "endAll", desc := "()V" } : MethodName)) ∈ WS := WS_m0 (i := 16) rfl rfl
theorem kv_X2_endOnTrack : (Cond.selects "HumpYard" ({ cls := "HumpYard", name := "endOnTrack", desc := "(LHumpYard$Cut;I)V" } : MethodName) ({ cls := "HumpYard", name := "endOnTrack", desc := "(LHumpYard$Cut;I)V" } : MethodName)) ∈ WS := WS_m0 (i := 17) rfl rfl
theorem kv_X2_land : (Cond.selects "HumpYard" ({ cls := "HumpYard", name := "land", desc := "(LHumpYard$Cut;I)V" } : MethodName) ({ cls := "HumpYard", name := "land", desc := "(LHumpYard$Cut;I)V" } : MethodName)) ∈ WS := WS_m0 (i := 18) rfl rfl
theorem kv_X2_enterSiding : (Cond.selects "HumpYard" ({ cls := "HumpYard", name := "enterSiding", desc := "(LHumpYard$Cut;I)V" } : MethodName) ({ cls := "HumpYard", name := "enterSiding", desc := "(LHumpYard$Cut;I)V" } : MethodName)) ∈ WS := WS_m0 (i := 19) rfl rfl
theorem kv_X2_stand : (Cond.selects "HumpYard" ({ cls := "HumpYard", name := "stand", desc := "(LHumpYard$Cut;I)V" } : MethodName) ({ cls := "HumpYard", name := "stand", desc := "(LHumpYard$Cut;I)V" } : MethodName)) ∈ WS := WS_m0 (i := 20) rfl rfl
theorem kv_Jx4a65c_fastRemove_b59b0 : (Cond.selects "java/util/ArrayList" ({ cls := "java/util/ArrayList", name := "fastRemove", desc := "([Ljava/lang/Object;I)V" } : MethodName) ({ cls := "java/util/ArrayList", name := "fastRemove", desc := "([Ljava/lang/Object;I)V" } : MethodName)) ∈ WS := WS_m0 (i := 21) rfl rfl
theorem kv_X2_pushNext : (Cond.selects "HumpYard" ({ cls := "HumpYard", name := "pushNext", desc := "()V" } : MethodName) ({ cls := "HumpYard", name := "pushNext", desc := "()V" } : MethodName)) ∈ WS := WS_m0 (i := 22) rfl rfl
theorem kv_X2_isCrestClear : (Cond.selects "HumpYard" ({ cls := "HumpYard", name := "isCrestClear", desc := "()Z" } : MethodName) ({ cls := "HumpYard", name := "isCrestClear", desc := "()Z" } : MethodName)) ∈ WS := WS_m0 (i := 23) rfl rfl
theorem kv_X2_cutOf : (Cond.selects "HumpYard" ({ cls := "HumpYard", name := "cutOf", desc := "(I)LHumpYard$Cut;" } : MethodName) ({ cls := "HumpYard", name := "cutOf", desc := "(I)LHumpYard$Cut;" } : MethodName)) ∈ WS := WS_m0 (i := 24) rfl rfl
theorem kv_X3_refuses : (Cond.selects "HumpYardModel" ({ cls := "HumpYardModel", name := "refuses", desc := "(I)Z" } : MethodName) ({ cls := "HumpYardModel", name := "refuses", desc := "(I)Z" } : MethodName)) ∈ WS := WS_m0 (i := 25) rfl rfl
theorem kv_X3_points : (Cond.selects "HumpYardModel" ({ cls := "HumpYardModel", name := "points", desc := "()V" } : MethodName) ({ cls := "HumpYardModel", name := "points", desc := "()V" } : MethodName)) ∈ WS := WS_m0 (i := 26) rfl rfl
theorem kv_X3_isBusy : (Cond.selects "HumpYardModel" ({ cls := "HumpYardModel", name := "isBusy", desc := "(I)Z" } : MethodName) ({ cls := "HumpYardModel", name := "isBusy", desc := "(I)Z" } : MethodName)) ∈ WS := WS_m0 (i := 27) rfl rfl
theorem kv_X3_goesBy : (Cond.selects "HumpYardModel" ({ cls := "HumpYardModel", name := "goesBy", desc := "(II)Z" } : MethodName) ({ cls := "HumpYardModel", name := "goesBy", desc := "(II)Z" } : MethodName)) ∈ WS := WS_m0 (i := 28) rfl rfl
theorem kv_X3_rear : (Cond.selects "HumpYardModel" ({ cls := "HumpYardModel", name := "rear", desc := "(I)D" } : MethodName) ({ cls := "HumpYardModel", name := "rear", desc := "(I)D" } : MethodName)) ∈ WS := WS_m0 (i := 29) rfl rfl
theorem kv_X3_bound : (Cond.selects "HumpYardModel" ({ cls := "HumpYardModel", name := "bound", desc := "(I)I" } : MethodName) ({ cls := "HumpYardModel", name := "bound", desc := "(I)I" } : MethodName)) ∈ WS := WS_m0 (i := 30) rfl rfl
theorem kv_X3_rolls : (Cond.selects "HumpYardModel" ({ cls := "HumpYardModel", name := "rolls", desc := "(I)V" } : MethodName) ({ cls := "HumpYardModel", name := "rolls", desc := "(I)V" } : MethodName)) ∈ WS := WS_m0 (i := 31) rfl rfl
theorem kv_X3_brakes : (Cond.selects "HumpYardModel" ({ cls := "HumpYardModel", name := "brakes", desc := "(II)D" } : MethodName) ({ cls := "HumpYardModel", name := "brakes", desc := "(II)D" } : MethodName)) ∈ WS := WS_m0 (i := 32) rfl rfl
theorem kv_X3_notes : (Cond.selects "HumpYardModel" ({ cls := "HumpYardModel", name := "notes", desc := "(III)V" } : MethodName) ({ cls := "HumpYardModel", name := "notes", desc := "(III)V" } : MethodName)) ∈ WS := WS_m0 (i := 33) rfl rfl
theorem kv_X3_catches : (Cond.selects "HumpYardModel" ({ cls := "HumpYardModel", name := "catches", desc := "(I)V" } : MethodName) ({ cls := "HumpYardModel", name := "catches", desc := "(I)V" } : MethodName)) ∈ WS := WS_m0 (i := 34) rfl rfl
theorem kv_X3_ahead : (Cond.selects "HumpYardModel" ({ cls := "HumpYardModel", name := "ahead", desc := "(I)I" } : MethodName) ({ cls := "HumpYardModel", name := "ahead", desc := "(I)I" } : MethodName)) ∈ WS := WS_m0 (i := 35) rfl rfl
theorem kv_X3_ends : (Cond.selects "HumpYardModel" ({ cls := "HumpYardModel", name := "ends", desc := "(I)V" } : MethodName) ({ cls := "HumpYardModel", name := "ends", desc := "(I)V" } : MethodName)) ∈ WS := WS_m0 (i := 36) rfl rfl
theorem kv_X3_pushes : (Cond.selects "HumpYardModel" ({ cls := "HumpYardModel", name := "pushes", desc := "()V" } : MethodName) ({ cls := "HumpYardModel", name := "pushes", desc := "()V" } : MethodName)) ∈ WS := WS_m0 (i := 37) rfl rfl
theorem kv_X3_isCut : (Cond.selects "HumpYardModel" ({ cls := "HumpYardModel", name := "isCut", desc := "(I)Z" } : MethodName) ({ cls := "HumpYardModel", name := "isCut", desc := "(I)Z" } : MethodName)) ∈ WS := WS_m0 (i := 38) rfl rfl
theorem ki_L : (Cond.initialized "HumpYardLaw") ∈ WS := WS_m1 (i := 0) rfl rfl
theorem ki_X2 : (Cond.initialized "HumpYard") ∈ WS := WS_m1 (i := 1) rfl rfl
theorem ki_Jxa1e45 : (Cond.initialized "java/util/AbstractCollection") ∈ WS := WS_m1 (i := 2) rfl rfl
theorem ki_Jxc12de : (Cond.initialized "java/util/AbstractList") ∈ WS := WS_m1 (i := 3) rfl rfl
theorem ki_Jx4a65c : (Cond.initialized "java/util/ArrayList") ∈ WS := WS_m1 (i := 4) rfl rfl
theorem ki_X1 : (Cond.initialized "HumpYard$EventLog") ∈ WS := WS_m1 (i := 5) rfl rfl
theorem ki_J7 : (Cond.initialized "java/util/Arrays") ∈ WS := WS_m1 (i := 6) rfl rfl
theorem ki_X3 : (Cond.initialized "HumpYardModel") ∈ WS := WS_m1 (i := 7) rfl rfl
theorem ki_java_lang_Throwable : (Cond.initialized "java/lang/Throwable") ∈ WS := WS_m1 (i := 8) rfl rfl
theorem ki_java_lang_Exception : (Cond.initialized "java/lang/Exception") ∈ WS := WS_m1 (i := 9) rfl rfl
theorem ki_java_lang_RuntimeException : (Cond.initialized "java/lang/RuntimeException") ∈ WS := WS_m1 (i := 10) rfl rfl
theorem ki_java_lang_IllegalArgumentException : (Cond.initialized "java/lang/IllegalArgumentException") ∈ WS := WS_m1 (i := 11) rfl rfl
theorem ki_java_lang_UnsupportedOperationException : (Cond.initialized "java/lang/UnsupportedOperationException") ∈ WS := WS_m1 (i := 12) rfl rfl
theorem ki_X0 : (Cond.initialized "HumpYard$Cut") ∈ WS := WS_m1 (i := 13) rfl rfl
theorem ki_J8 : (Cond.initialized "jdk/internal/util/ArraysSupport") ∈ WS := WS_m1 (i := 14) rfl rfl
theorem ki_J9 : (Cond.initialized "java/lang/Math") ∈ WS := WS_m1 (i := 15) rfl rfl
theorem ki_J10 : (Cond.initialized "java/lang/System") ∈ WS := WS_m1 (i := 16) rfl rfl
theorem ki_java_lang_IndexOutOfBoundsException : (Cond.initialized "java/lang/IndexOutOfBoundsException") ∈ WS := WS_m1 (i := 17) rfl rfl
theorem ki_J15 : (Cond.initialized "java/util/Objects") ∈ WS := WS_m1 (i := 18) rfl rfl
theorem ki_J3 : (Cond.initialized "jdk/internal/util/Preconditions") ∈ WS := WS_m1 (i := 19) rfl rfl
theorem kl_L_8 : (Cond.classLink "HumpYardLaw" (8 : Nat) "HumpYard") ∈ WS := WS_m1 (i := 20) rfl rfl
theorem kt_X2 : (Cond.instantiable "HumpYard" (16 : Nat)) ∈ WS := WS_m1 (i := 21) rfl rfl
theorem km_L_61 : (Cond.methodLink "HumpYardLaw" (61 : Nat) ({ cls := "HumpYard", name := "<init>", desc := "()V" } : MethodName)) ∈ WS := WS_m1 (i := 22) rfl rfl
theorem kn_X2_init : (Cond.instanceMethod ({ cls := "HumpYard", name := "<init>", desc := "()V" } : MethodName)) ∈ WS := WS_m1 (i := 23) rfl rfl
theorem kc_X2_init : (Cond.code ({ cls := "HumpYard", name := "<init>", desc := "()V" } : MethodName) prog_1_method_1_code (1 : Nat) (Option.none : Option ClassFile.FieldType)) ∈ WS := WS_m1 (i := 24) rfl rfl
theorem km_X2_1 : (Cond.methodLink "HumpYard" (1 : Nat) ({ cls := "java/lang/Object", name := "<init>", desc := "()V" } : MethodName)) ∈ WS := WS_m1 (i := 25) rfl rfl
theorem kn_Object__init__6b9f : (Cond.instanceMethod ({ cls := "java/lang/Object", name := "<init>", desc := "()V" } : MethodName)) ∈ WS := WS_m1 (i := 26) rfl rfl
theorem kc_Object__init__6b9f : (Cond.code ({ cls := "java/lang/Object", name := "<init>", desc := "()V" } : MethodName) object_method_1_code (1 : Nat) (Option.none : Option ClassFile.FieldType)) ∈ WS := WS_m1 (i := 27) rfl rfl
theorem kl_X2_7 : (Cond.classLink "HumpYard" (7 : Nat) "java/util/ArrayList") ∈ WS := WS_m1 (i := 28) rfl rfl
theorem kt_Jx4a65c : (Cond.instantiable "java/util/ArrayList" (3 : Nat)) ∈ WS := WS_m1 (i := 29) rfl rfl
theorem km_X2_9 : (Cond.methodLink "HumpYard" (9 : Nat) ({ cls := "java/util/ArrayList", name := "<init>", desc := "()V" } : MethodName)) ∈ WS := WS_m1 (i := 30) rfl rfl
theorem kn_Jx4a65c_init_da8c8 : (Cond.instanceMethod ({ cls := "java/util/ArrayList", name := "<init>", desc := "()V" } : MethodName)) ∈ WS := WS_m1 (i := 31) rfl rfl
theorem kc_Jx4a65c_init_da8c8 : (Cond.code ({ cls := "java/util/ArrayList", name := "<init>", desc := "()V" } : MethodName) prog_20_method_2_code (1 : Nat) (Option.none : Option ClassFile.FieldType)) ∈ WS := WS_m1 (i := 32) rfl rfl
theorem km_Jx4a65c_1 : (Cond.methodLink "java/util/ArrayList" (1 : Nat) ({ cls := "java/util/AbstractList", name := "<init>", desc := "()V" } : MethodName)) ∈ WS := WS_m1 (i := 33) rfl rfl
theorem kn_Jxc12de_init_da8c8 : (Cond.instanceMethod ({ cls := "java/util/AbstractList", name := "<init>", desc := "()V" } : MethodName)) ∈ WS := WS_m1 (i := 34) rfl rfl
theorem kc_Jxc12de_init_da8c8 : (Cond.code ({ cls := "java/util/AbstractList", name := "<init>", desc := "()V" } : MethodName) prog_19_method_1_code (1 : Nat) (Option.none : Option ClassFile.FieldType)) ∈ WS := WS_m1 (i := 35) rfl rfl
theorem km_Jxc12de_1 : (Cond.methodLink "java/util/AbstractList" (1 : Nat) ({ cls := "java/util/AbstractCollection", name := "<init>", desc := "()V" } : MethodName)) ∈ WS := WS_m1 (i := 36) rfl rfl
theorem kn_Jxa1e45_init_da8c8 : (Cond.instanceMethod ({ cls := "java/util/AbstractCollection", name := "<init>", desc := "()V" } : MethodName)) ∈ WS := WS_m1 (i := 37) rfl rfl
theorem kc_Jxa1e45_init_da8c8 : (Cond.code ({ cls := "java/util/AbstractCollection", name := "<init>", desc := "()V" } : MethodName) prog_18_method_1_code (1 : Nat) (Option.none : Option ClassFile.FieldType)) ∈ WS := WS_m1 (i := 38) rfl rfl
theorem km_Jxa1e45_1 : (Cond.methodLink "java/util/AbstractCollection" (1 : Nat) ({ cls := "java/lang/Object", name := "<init>", desc := "()V" } : MethodName)) ∈ WS := WS_m1 (i := 39) rfl rfl
theorem kf_Jx4a65c_39 : (Cond.fieldLink "java/util/ArrayList" (39 : Nat) "java/util/ArrayList" "DEFAULTCAPACITY_EMPTY_ELEMENTDATA" "[Ljava/lang/Object;") ∈ WS := WS_m1 (i := 40) rfl rfl
theorem kf_Jx4a65c_9 : (Cond.fieldLink "java/util/ArrayList" (9 : Nat) "java/util/ArrayList" "elementData" "[Ljava/lang/Object;") ∈ WS := WS_m1 (i := 42) rfl rfl
theorem kf_Jx4a65c_48 : (Cond.fieldLink "java/util/ArrayList" (48 : Nat) "java/util/ArrayList" "size" "I") ∈ WS := WS_m1 (i := 43) rfl rfl
theorem kf_Jxc12de_7 : (Cond.fieldLink "java/util/AbstractList" (7 : Nat) "java/util/AbstractList" "modCount" "I") ∈ WS := WS_m1 (i := 44) rfl rfl
theorem kf_Jx4a65c_63 : (Cond.fieldLink "java/util/ArrayList" (63 : Nat) "java/util/ArrayList" "modCount" "I") ∈ WS := WS_m1 (i := 45) rfl rfl
theorem kl_X2_19 : (Cond.classLink "HumpYard" (19 : Nat) "HumpYard$EventLog") ∈ WS := WS_m1 (i := 54) rfl rfl
theorem kt_X1 : (Cond.instantiable "HumpYard$EventLog" (2 : Nat)) ∈ WS := WS_m1 (i := 55) rfl rfl
theorem kn_X1_init : (Cond.instanceMethod ({ cls := "HumpYard$EventLog", name := "<init>", desc := "()V" } : MethodName)) ∈ WS := WS_m1 (i := 57) rfl rfl
theorem kc_X1_init : (Cond.code ({ cls := "HumpYard$EventLog", name := "<init>", desc := "()V" } : MethodName) prog_3_method_1_code (1 : Nat) (Option.none : Option ClassFile.FieldType)) ∈ WS := WS_m1 (i := 58) rfl rfl
theorem km_X1_3 : (Cond.methodLink "HumpYard$EventLog" (3 : Nat) ({ cls := "java/lang/Object", name := "<init>", desc := "()V" } : MethodName)) ∈ WS := WS_m1 (i := 59) rfl rfl
theorem kf_X1_9 : (Cond.fieldLink "HumpYard$EventLog" (9 : Nat) "HumpYard$EventLog" "rows" "[I") ∈ WS := WS_m1 (i := 60) rfl rfl
theorem kf_X1_15 : (Cond.fieldLink "HumpYard$EventLog" (15 : Nat) "HumpYard$EventLog" "count" "I") ∈ WS := WS_m1 (i := 61) rfl rfl
theorem kf_X2_140 : (Cond.fieldLink "HumpYard" (140 : Nat) "HumpYard$EventLog" "count" "I") ∈ WS := WS_m1 (i := 62) rfl rfl
theorem ka_int : (Cond.arrayClass ClassFile.FieldType.int) ∈ WS := WS_m1 (i := 68) rfl rfl
theorem kd_X2_70 : (Cond.constantDouble "HumpYard" (70 : Nat) (4611686018427387904 : UInt64)) ∈ WS := WS_m1 (i := 69) rfl rfl
theorem km_X2_72 : (Cond.methodLink "HumpYard" (72 : Nat) ({ cls := "java/util/Arrays", name := "fill", desc := "([DD)V" } : MethodName)) ∈ WS := WS_m1 (i := 70) rfl rfl
theorem ks_J7_fill_7f8df : (Cond.static ({ cls := "java/util/Arrays", name := "fill", desc := "([DD)V" } : MethodName)) ∈ WS := WS_m1 (i := 71) rfl rfl
theorem kc_J7_fill_7f8df : (Cond.code ({ cls := "java/util/Arrays", name := "fill", desc := "([DD)V" } : MethodName) prog_21_method_113_code (5 : Nat) (Option.none : Option ClassFile.FieldType)) ∈ WS := WS_m1 (i := 72) rfl rfl
theorem kd_X2_78 : (Cond.constantDouble "HumpYard" (78 : Nat) (4645744490609377280 : UInt64)) ∈ WS := WS_m1 (i := 73) rfl rfl
theorem kf_X2_10 : (Cond.fieldLink "HumpYard" (10 : Nat) "HumpYard" "cuts" "Ljava/util/ArrayList;") ∈ WS := WS_m1 (i := 74) rfl rfl
theorem kf_X2_16 : (Cond.fieldLink "HumpYard" (16 : Nat) "HumpYard" "rolling" "Ljava/util/ArrayList;") ∈ WS := WS_m1 (i := 75) rfl rfl
theorem kf_X2_22 : (Cond.fieldLink "HumpYard" (22 : Nat) "HumpYard" "events" "LHumpYard$EventLog;") ∈ WS := WS_m1 (i := 76) rfl rfl
theorem kf_X2_26 : (Cond.fieldLink "HumpYard" (26 : Nat) "HumpYard" "sides" "[I") ∈ WS := WS_m1 (i := 77) rfl rfl
theorem kf_X2_30 : (Cond.fieldLink "HumpYard" (30 : Nat) "HumpYard" "turning" "[I") ∈ WS := WS_m1 (i := 78) rfl rfl
theorem kf_X2_33 : (Cond.fieldLink "HumpYard" (33 : Nat) "HumpYard" "stuckPoints" "[Z") ∈ WS := WS_m1 (i := 79) rfl rfl
theorem kf_X2_37 : (Cond.fieldLink "HumpYard" (37 : Nat) "HumpYard" "wishes" "[D") ∈ WS := WS_m1 (i := 80) rfl rfl
theorem kf_X2_41 : (Cond.fieldLink "HumpYard" (41 : Nat) "HumpYard" "free" "[D") ∈ WS := WS_m1 (i := 81) rfl rfl
theorem kf_X2_44 : (Cond.fieldLink "HumpYard" (44 : Nat) "HumpYard" "ended" "[I") ∈ WS := WS_m1 (i := 82) rfl rfl
theorem kf_X2_47 : (Cond.fieldLink "HumpYard" (47 : Nat) "HumpYard" "sidings" "[I") ∈ WS := WS_m1 (i := 83) rfl rfl
theorem kf_X2_50 : (Cond.fieldLink "HumpYard" (50 : Nat) "HumpYard" "pushSpeed" "D") ∈ WS := WS_m1 (i := 84) rfl rfl
theorem kf_X2_54 : (Cond.fieldLink "HumpYard" (54 : Nat) "HumpYard" "topSpeed" "D") ∈ WS := WS_m1 (i := 85) rfl rfl
theorem kf_X2_57 : (Cond.fieldLink "HumpYard" (57 : Nat) "HumpYard" "started" "I") ∈ WS := WS_m1 (i := 86) rfl rfl
theorem kf_X2_61 : (Cond.fieldLink "HumpYard" (61 : Nat) "HumpYard" "landed" "I") ∈ WS := WS_m1 (i := 87) rfl rfl
theorem kf_X2_64 : (Cond.fieldLink "HumpYard" (64 : Nat) "HumpYard" "standing" "I") ∈ WS := WS_m1 (i := 88) rfl rfl
theorem kf_X2_67 : (Cond.fieldLink "HumpYard" (67 : Nat) "HumpYard" "ticks" "I") ∈ WS := WS_m1 (i := 89) rfl rfl
theorem ka_boolean : (Cond.arrayClass ClassFile.FieldType.boolean) ∈ WS := WS_m1 (i := 123) rfl rfl
theorem ka_double : (Cond.arrayClass ClassFile.FieldType.double) ∈ WS := WS_m1 (i := 124) rfl rfl
theorem km_L_119 : (Cond.methodLink "HumpYardLaw" (119 : Nat) ({ cls := "HumpYard", name := "fastest", desc := "()D" } : MethodName)) ∈ WS := WS_m1 (i := 125) rfl rfl
theorem kn_X2_fastest : (Cond.instanceMethod ({ cls := "HumpYard", name := "fastest", desc := "()D" } : MethodName)) ∈ WS := WS_m1 (i := 126) rfl rfl
theorem kv_X2_fastest : (Cond.selects "HumpYard" ({ cls := "HumpYard", name := "fastest", desc := "()D" } : MethodName) ({ cls := "HumpYard", name := "fastest", desc := "()D" } : MethodName)) ∈ WS := WS_m1 (i := 127) rfl rfl
theorem kc_X2_fastest : (Cond.code ({ cls := "HumpYard", name := "fastest", desc := "()D" } : MethodName) prog_1_method_15_code (1 : Nat) (Option.some ClassFile.FieldType.double)) ∈ WS := WS_m1 (i := 128) rfl rfl
theorem km_L_67 : (Cond.methodLink "HumpYardLaw" (67 : Nat) ({ cls := "HumpYardLaw", name := "cut", desc := "(LHumpYard;IIDI[J)I" } : MethodName)) ∈ WS := WS_m1 (i := 129) rfl rfl
theorem ks_L_cut : (Cond.static ({ cls := "HumpYardLaw", name := "cut", desc := "(LHumpYard;IIDI[J)I" } : MethodName)) ∈ WS := WS_m1 (i := 130) rfl rfl
theorem kc_L_cut : (Cond.codeWith ({ cls := "HumpYardLaw", name := "cut", desc := "(LHumpYard;IIDI[J)I" } : MethodName) method_3_code (8 : Nat) (Option.some ClassFile.FieldType.int) [((0 : Nat), (14 : Nat), (17 : Nat), (13 : Nat)), ((0 : Nat), (14 : Nat), (21 : Nat), (15 : Nat))]) ∈ WS := WS_m1 (i := 131) rfl rfl
theorem kl_L_13 : (Cond.classLink "HumpYardLaw" (13 : Nat) "java/lang/IllegalArgumentException") ∈ WS := WS_m1 (i := 132) rfl rfl
theorem kl_L_15 : (Cond.classLink "HumpYardLaw" (15 : Nat) "java/lang/UnsupportedOperationException") ∈ WS := WS_m1 (i := 133) rfl rfl
theorem km_L_7 : (Cond.methodLink "HumpYardLaw" (7 : Nat) ({ cls := "HumpYard", name := "cut", desc := "(IIDI)I" } : MethodName)) ∈ WS := WS_m1 (i := 134) rfl rfl
theorem kn_X2_cut : (Cond.instanceMethod ({ cls := "HumpYard", name := "cut", desc := "(IIDI)I" } : MethodName)) ∈ WS := WS_m1 (i := 135) rfl rfl
theorem kv_X2_cut : (Cond.selects "HumpYard" ({ cls := "HumpYard", name := "cut", desc := "(IIDI)I" } : MethodName) ({ cls := "HumpYard", name := "cut", desc := "(IIDI)I" } : MethodName)) ∈ WS := WS_m1 (i := 136) rfl rfl
theorem kc_X2_cut : (Cond.code ({ cls := "HumpYard", name := "cut", desc := "(IIDI)I" } : MethodName) prog_1_method_2_code (7 : Nat) (Option.some ClassFile.FieldType.int)) ∈ WS := WS_m1 (i := 137) rfl rfl
theorem kl_X2_80 : (Cond.classLink "HumpYard" (80 : Nat) "java/lang/IllegalArgumentException") ∈ WS := WS_m1 (i := 138) rfl rfl
theorem kt_java_lang_IllegalArgumentException : (Cond.instantiable "java/lang/IllegalArgumentException" (6 : Nat)) ∈ WS := WS_m1 (i := 139) rfl rfl
theorem kv_Throwable_fillInStackTrace_1897 : (Cond.selects "java/lang/IllegalArgumentException" ({ cls := "java/lang/Throwable", name := "fillInStackTrace", desc := "(I)Ljava/lang/Throwable;" } : MethodName) ({ cls := "java/lang/Throwable", name := "fillInStackTrace", desc := "(I)Ljava/lang/Throwable;" } : MethodName)) ∈ WS := WS_m1 (i := 147) rfl rfl
theorem kv_Throwable_fillInStackTrace_3fe7 : (Cond.selects "java/lang/IllegalArgumentException" ({ cls := "java/lang/Throwable", name := "fillInStackTrace", desc := "()Ljava/lang/Throwable;" } : MethodName) ({ cls := "java/lang/Throwable", name := "fillInStackTrace", desc := "()Ljava/lang/Throwable;" } : MethodName)) ∈ WS := WS_m1 (i := 148) rfl rfl
theorem kf_java_lang_Throwable_198 : (Cond.fieldLink "java/lang/Throwable" (198 : Nat) "java/lang/Throwable" "backtrace" "Ljava/lang/Object;") ∈ WS := WS_m1 (i := 159) rfl rfl
theorem kn_Throwable__init__f5ba : (Cond.instanceMethod ({ cls := "java/lang/Throwable", name := "<init>", desc := "()V" } : MethodName)) ∈ WS := WS_m1 (i := 161) rfl rfl
theorem kc_Throwable__init__f5ba : (Cond.code ({ cls := "java/lang/Throwable", name := "<init>", desc := "()V" } : MethodName) prog_16_method_1_code (1 : Nat) (Option.none : Option ClassFile.FieldType)) ∈ WS := WS_m1 (i := 162) rfl rfl
theorem km_java_lang_Throwable_1 : (Cond.methodLink "java/lang/Throwable" (1 : Nat) ({ cls := "java/lang/Object", name := "<init>", desc := "()V" } : MethodName)) ∈ WS := WS_m1 (i := 163) rfl rfl
theorem kf_java_lang_Throwable_13 : (Cond.fieldLink "java/lang/Throwable" (13 : Nat) "java/lang/Throwable" "UNASSIGNED_STACK" "[Ljava/lang/StackTraceElement;") ∈ WS := WS_m1 (i := 164) rfl rfl
theorem kf_java_lang_Throwable_20 : (Cond.fieldLink "java/lang/Throwable" (20 : Nat) "java/lang/Throwable" "SUPPRESSED_SENTINEL" "Ljava/util/List;") ∈ WS := WS_m1 (i := 166) rfl rfl
theorem km_java_lang_Throwable_27 : (Cond.methodLink "java/lang/Throwable" (27 : Nat) ({ cls := "java/lang/Throwable", name := "fillInStackTrace", desc := "()Ljava/lang/Throwable;" } : MethodName)) ∈ WS := WS_m1 (i := 168) rfl rfl
theorem kn_Throwable_fillInStackTrace_3fe7 : (Cond.instanceMethod ({ cls := "java/lang/Throwable", name := "fillInStackTrace", desc := "()Ljava/lang/Throwable;" } : MethodName)) ∈ WS := WS_m1 (i := 169) rfl rfl
theorem kv_Throwable_fillInStackTrace_3fe7_2 : (Cond.selects "java/lang/IndexOutOfBoundsException" ({ cls := "java/lang/Throwable", name := "fillInStackTrace", desc := "()Ljava/lang/Throwable;" } : MethodName) ({ cls := "java/lang/Throwable", name := "fillInStackTrace", desc := "()Ljava/lang/Throwable;" } : MethodName)) ∈ WS := WS_m1 (i := 171) rfl rfl
theorem kv_Throwable_fillInStackTrace_3fe7_3 : (Cond.selects "java/lang/UnsupportedOperationException" ({ cls := "java/lang/Throwable", name := "fillInStackTrace", desc := "()Ljava/lang/Throwable;" } : MethodName) ({ cls := "java/lang/Throwable", name := "fillInStackTrace", desc := "()Ljava/lang/Throwable;" } : MethodName)) ∈ WS := WS_m1 (i := 172) rfl rfl
theorem kc_Throwable_fillInStackTrace_3fe7 : (Cond.codeSync ({ cls := "java/lang/Throwable", name := "fillInStackTrace", desc := "()Ljava/lang/Throwable;" } : MethodName) prog_16_method_18_code (1 : Nat) (Option.some (ClassFile.FieldType.object "java/lang/Throwable"))) ∈ WS := WS_m1 (i := 173) rfl rfl
theorem km_java_lang_Throwable_202 : (Cond.methodLink "java/lang/Throwable" (202 : Nat) ({ cls := "java/lang/Throwable", name := "fillInStackTrace", desc := "(I)Ljava/lang/Throwable;" } : MethodName)) ∈ WS := WS_m1 (i := 174) rfl rfl
theorem kn_Throwable_fillInStackTrace_1897 : (Cond.instanceMethod ({ cls := "java/lang/Throwable", name := "fillInStackTrace", desc := "(I)Ljava/lang/Throwable;" } : MethodName)) ∈ WS := WS_m1 (i := 176) rfl rfl
theorem kt_java_lang_Throwable : (Cond.instantiable "java/lang/Throwable" (6 : Nat)) ∈ WS := WS_m1 (i := 177) rfl rfl
theorem km_X2_84 : (Cond.methodLink "HumpYard" (84 : Nat) ({ cls := "java/lang/IllegalArgumentException", name := "<init>", desc := "(Ljava/lang/String;)V" } : MethodName)) ∈ WS := WS_m1 (i := 180) rfl rfl
theorem kn_IllegalArgumentException__init__4fa9 : (Cond.instanceMethod ({ cls := "java/lang/IllegalArgumentException", name := "<init>", desc := "(Ljava/lang/String;)V" } : MethodName)) ∈ WS := WS_m1 (i := 181) rfl rfl
theorem kc_IllegalArgumentException__init__4fa9 : (Cond.code ({ cls := "java/lang/IllegalArgumentException", name := "<init>", desc := "(Ljava/lang/String;)V" } : MethodName) prog_9_method_2_code (2 : Nat) (Option.none : Option ClassFile.FieldType)) ∈ WS := WS_m1 (i := 182) rfl rfl
theorem km_java_lang_IllegalArgumentException_7 : (Cond.methodLink "java/lang/IllegalArgumentException" (7 : Nat) ({ cls := "java/lang/RuntimeException", name := "<init>", desc := "(Ljava/lang/String;)V" } : MethodName)) ∈ WS := WS_m1 (i := 183) rfl rfl
theorem kn_RuntimeException__init__54e8 : (Cond.instanceMethod ({ cls := "java/lang/RuntimeException", name := "<init>", desc := "(Ljava/lang/String;)V" } : MethodName)) ∈ WS := WS_m1 (i := 184) rfl rfl
theorem kc_RuntimeException__init__54e8 : (Cond.code ({ cls := "java/lang/RuntimeException", name := "<init>", desc := "(Ljava/lang/String;)V" } : MethodName) prog_13_method_2_code (2 : Nat) (Option.none : Option ClassFile.FieldType)) ∈ WS := WS_m1 (i := 185) rfl rfl
theorem km_java_lang_RuntimeException_7 : (Cond.methodLink "java/lang/RuntimeException" (7 : Nat) ({ cls := "java/lang/Exception", name := "<init>", desc := "(Ljava/lang/String;)V" } : MethodName)) ∈ WS := WS_m1 (i := 186) rfl rfl
theorem kn_Exception__init__2aaf : (Cond.instanceMethod ({ cls := "java/lang/Exception", name := "<init>", desc := "(Ljava/lang/String;)V" } : MethodName)) ∈ WS := WS_m1 (i := 187) rfl rfl
theorem kc_Exception__init__2aaf : (Cond.code ({ cls := "java/lang/Exception", name := "<init>", desc := "(Ljava/lang/String;)V" } : MethodName) prog_8_method_2_code (2 : Nat) (Option.none : Option ClassFile.FieldType)) ∈ WS := WS_m1 (i := 188) rfl rfl
theorem km_java_lang_Exception_7 : (Cond.methodLink "java/lang/Exception" (7 : Nat) ({ cls := "java/lang/Throwable", name := "<init>", desc := "(Ljava/lang/String;)V" } : MethodName)) ∈ WS := WS_m1 (i := 189) rfl rfl
theorem kn_Throwable__init__954d : (Cond.instanceMethod ({ cls := "java/lang/Throwable", name := "<init>", desc := "(Ljava/lang/String;)V" } : MethodName)) ∈ WS := WS_m1 (i := 190) rfl rfl
theorem kc_Throwable__init__954d : (Cond.code ({ cls := "java/lang/Throwable", name := "<init>", desc := "(Ljava/lang/String;)V" } : MethodName) prog_16_method_2_code (2 : Nat) (Option.none : Option ClassFile.FieldType)) ∈ WS := WS_m1 (i := 191) rfl rfl
theorem kf_java_lang_Throwable_198_2 : (Cond.fieldLink "java/lang/Throwable" (198 : Nat) "java/lang/Throwable" "backtrace" "Ljava/lang/Object;") ∈ WS := WS_m1 (i := 192) rfl rfl
theorem kf_java_lang_Throwable_31 : (Cond.fieldLink "java/lang/Throwable" (31 : Nat) "java/lang/Throwable" "detailMessage" "Ljava/lang/String;") ∈ WS := WS_m1 (i := 193) rfl rfl
theorem kf_java_lang_Throwable_7 : (Cond.fieldLink "java/lang/Throwable" (7 : Nat) "java/lang/Throwable" "cause" "Ljava/lang/Throwable;") ∈ WS := WS_m1 (i := 194) rfl rfl
theorem kf_java_lang_Throwable_17 : (Cond.fieldLink "java/lang/Throwable" (17 : Nat) "java/lang/Throwable" "stackTrace" "[Ljava/lang/StackTraceElement;") ∈ WS := WS_m1 (i := 195) rfl rfl
theorem kf_java_lang_Throwable_24 : (Cond.fieldLink "java/lang/Throwable" (24 : Nat) "java/lang/Throwable" "suppressedExceptions" "Ljava/util/List;") ∈ WS := WS_m1 (i := 196) rfl rfl
theorem ka_byte : (Cond.arrayClass ClassFile.FieldType.byte) ∈ WS := WS_m1 (i := 205) rfl rfl
theorem km_X2_89 : (Cond.methodLink "HumpYard" (89 : Nat) ({ cls := "HumpYard", name := "isWithin", desc := "(DI)Z" } : MethodName)) ∈ WS := WS_m1 (i := 207) rfl rfl
theorem ks_X2_isWithin : (Cond.static ({ cls := "HumpYard", name := "isWithin", desc := "(DI)Z" } : MethodName)) ∈ WS := WS_m1 (i := 208) rfl rfl
theorem kc_X2_isWithin : (Cond.code ({ cls := "HumpYard", name := "isWithin", desc := "(DI)Z" } : MethodName) prog_1_method_17_code (3 : Nat) (Option.some ClassFile.FieldType.boolean)) ∈ WS := WS_m1 (i := 209) rfl rfl
theorem km_X2_95 : (Cond.methodLink "HumpYard" (95 : Nat) ({ cls := "HumpYard", name := "isTrack", desc := "(I)Z" } : MethodName)) ∈ WS := WS_m1 (i := 211) rfl rfl
theorem ks_X2_isTrack : (Cond.static ({ cls := "HumpYard", name := "isTrack", desc := "(I)Z" } : MethodName)) ∈ WS := WS_m1 (i := 212) rfl rfl
theorem kc_X2_isTrack : (Cond.code ({ cls := "HumpYard", name := "isTrack", desc := "(I)Z" } : MethodName) prog_1_method_18_code (1 : Nat) (Option.some ClassFile.FieldType.boolean)) ∈ WS := WS_m1 (i := 213) rfl rfl
theorem km_X2_101 : (Cond.methodLink "HumpYard" (101 : Nat) ({ cls := "java/util/ArrayList", name := "size", desc := "()I" } : MethodName)) ∈ WS := WS_m1 (i := 215) rfl rfl
theorem kn_Jx4a65c_size_8abf5 : (Cond.instanceMethod ({ cls := "java/util/ArrayList", name := "size", desc := "()I" } : MethodName)) ∈ WS := WS_m1 (i := 216) rfl rfl
theorem kv_Jx4a65c_size_8abf5 : (Cond.selects "java/util/ArrayList" ({ cls := "java/util/ArrayList", name := "size", desc := "()I" } : MethodName) ({ cls := "java/util/ArrayList", name := "size", desc := "()I" } : MethodName)) ∈ WS := WS_m1 (i := 217) rfl rfl
theorem kc_Jx4a65c_size_8abf5 : (Cond.code ({ cls := "java/util/ArrayList", name := "size", desc := "()I" } : MethodName) prog_20_method_8_code (1 : Nat) (Option.some ClassFile.FieldType.int)) ∈ WS := WS_m1 (i := 218) rfl rfl
theorem kl_X2_105 : (Cond.classLink "HumpYard" (105 : Nat) "java/lang/UnsupportedOperationException") ∈ WS := WS_m1 (i := 219) rfl rfl
theorem kt_java_lang_UnsupportedOperationException : (Cond.instantiable "java/lang/UnsupportedOperationException" (6 : Nat)) ∈ WS := WS_m1 (i := 220) rfl rfl
theorem kv_Throwable_fillInStackTrace_1897_2 : (Cond.selects "java/lang/UnsupportedOperationException" ({ cls := "java/lang/Throwable", name := "fillInStackTrace", desc := "(I)Ljava/lang/Throwable;" } : MethodName) ({ cls := "java/lang/Throwable", name := "fillInStackTrace", desc := "(I)Ljava/lang/Throwable;" } : MethodName)) ∈ WS := WS_m1 (i := 222) rfl rfl
theorem km_X2_109 : (Cond.methodLink "HumpYard" (109 : Nat) ({ cls := "java/lang/UnsupportedOperationException", name := "<init>", desc := "(Ljava/lang/String;)V" } : MethodName)) ∈ WS := WS_m1 (i := 229) rfl rfl
theorem kn_UnsupportedOperationException__init__1ab6 : (Cond.instanceMethod ({ cls := "java/lang/UnsupportedOperationException", name := "<init>", desc := "(Ljava/lang/String;)V" } : MethodName)) ∈ WS := WS_m1 (i := 230) rfl rfl
theorem kc_UnsupportedOperationException__init__1ab6 : (Cond.code ({ cls := "java/lang/UnsupportedOperationException", name := "<init>", desc := "(Ljava/lang/String;)V" } : MethodName) prog_17_method_2_code (2 : Nat) (Option.none : Option ClassFile.FieldType)) ∈ WS := WS_m1 (i := 231) rfl rfl
theorem km_java_lang_UnsupportedOperationException_7 : (Cond.methodLink "java/lang/UnsupportedOperationException" (7 : Nat) ({ cls := "java/lang/RuntimeException", name := "<init>", desc := "(Ljava/lang/String;)V" } : MethodName)) ∈ WS := WS_m1 (i := 232) rfl rfl
theorem kl_X2_110 : (Cond.classLink "HumpYard" (110 : Nat) "HumpYard$Cut") ∈ WS := WS_m1 (i := 235) rfl rfl
theorem kt_X0 : (Cond.instantiable "HumpYard$Cut" (10 : Nat)) ∈ WS := WS_m1 (i := 236) rfl rfl
theorem km_X2_112 : (Cond.methodLink "HumpYard" (112 : Nat) ({ cls := "HumpYard$Cut", name := "<init>", desc := "(IIIDI)V" } : MethodName)) ∈ WS := WS_m1 (i := 237) rfl rfl
theorem kn_X0_init : (Cond.instanceMethod ({ cls := "HumpYard$Cut", name := "<init>", desc := "(IIIDI)V" } : MethodName)) ∈ WS := WS_m1 (i := 238) rfl rfl
theorem kc_X0_init : (Cond.code ({ cls := "HumpYard$Cut", name := "<init>", desc := "(IIIDI)V" } : MethodName) prog_2_method_1_code (7 : Nat) (Option.none : Option ClassFile.FieldType)) ∈ WS := WS_m1 (i := 239) rfl rfl
theorem km_X0_3 : (Cond.methodLink "HumpYard$Cut" (3 : Nat) ({ cls := "java/lang/Object", name := "<init>", desc := "()V" } : MethodName)) ∈ WS := WS_m2 (i := 0) rfl rfl
theorem kd_X0_31 : (Cond.constantDouble "HumpYard$Cut" (31 : Nat) (4623226492472524800 : UInt64)) ∈ WS := WS_m2 (i := 1) rfl rfl
theorem kf_X0_28 : (Cond.fieldLink "HumpYard$Cut" (28 : Nat) "HumpYard$Cut" "number" "I") ∈ WS := WS_m2 (i := 2) rfl rfl
theorem kf_X2_119 : (Cond.fieldLink "HumpYard" (119 : Nat) "HumpYard$Cut" "number" "I") ∈ WS := WS_m2 (i := 3) rfl rfl
theorem kf_X0_33 : (Cond.fieldLink "HumpYard$Cut" (33 : Nat) "HumpYard$Cut" "length" "D") ∈ WS := WS_m2 (i := 4) rfl rfl
theorem kf_X2_318 : (Cond.fieldLink "HumpYard" (318 : Nat) "HumpYard$Cut" "length" "D") ∈ WS := WS_m2 (i := 5) rfl rfl
theorem kf_X0_36 : (Cond.fieldLink "HumpYard$Cut" (36 : Nat) "HumpYard$Cut" "mass" "D") ∈ WS := WS_m2 (i := 6) rfl rfl
theorem kf_X2_303 : (Cond.fieldLink "HumpYard" (303 : Nat) "HumpYard$Cut" "mass" "D") ∈ WS := WS_m2 (i := 7) rfl rfl
theorem kf_X0_39 : (Cond.fieldLink "HumpYard$Cut" (39 : Nat) "HumpYard$Cut" "resistance" "D") ∈ WS := WS_m2 (i := 8) rfl rfl
theorem kf_X2_253 : (Cond.fieldLink "HumpYard" (253 : Nat) "HumpYard$Cut" "resistance" "D") ∈ WS := WS_m2 (i := 9) rfl rfl
theorem kf_X0_42 : (Cond.fieldLink "HumpYard$Cut" (42 : Nat) "HumpYard$Cut" "wishedNode" "I") ∈ WS := WS_m2 (i := 10) rfl rfl
theorem kf_X2_285 : (Cond.fieldLink "HumpYard" (285 : Nat) "HumpYard$Cut" "wishedNode" "I") ∈ WS := WS_m2 (i := 11) rfl rfl
theorem kf_X0_9 : (Cond.fieldLink "HumpYard$Cut" (9 : Nat) "HumpYard$Cut" "state" "I") ∈ WS := WS_m2 (i := 12) rfl rfl
theorem kf_X2_171 : (Cond.fieldLink "HumpYard" (171 : Nat) "HumpYard$Cut" "state" "I") ∈ WS := WS_m2 (i := 13) rfl rfl
theorem kf_X0_15 : (Cond.fieldLink "HumpYard$Cut" (15 : Nat) "HumpYard$Cut" "place" "D") ∈ WS := WS_m2 (i := 14) rfl rfl
theorem kf_X2_165 : (Cond.fieldLink "HumpYard" (165 : Nat) "HumpYard$Cut" "place" "D") ∈ WS := WS_m2 (i := 15) rfl rfl
theorem kf_X0_19 : (Cond.fieldLink "HumpYard$Cut" (19 : Nat) "HumpYard$Cut" "speed" "D") ∈ WS := WS_m2 (i := 16) rfl rfl
theorem kf_X2_168 : (Cond.fieldLink "HumpYard" (168 : Nat) "HumpYard$Cut" "speed" "D") ∈ WS := WS_m2 (i := 17) rfl rfl
theorem kf_X0_22 : (Cond.fieldLink "HumpYard$Cut" (22 : Nat) "HumpYard$Cut" "node" "I") ∈ WS := WS_m2 (i := 18) rfl rfl
theorem kf_X2_174 : (Cond.fieldLink "HumpYard" (174 : Nat) "HumpYard$Cut" "node" "I") ∈ WS := WS_m2 (i := 19) rfl rfl
theorem kf_X0_25 : (Cond.fieldLink "HumpYard$Cut" (25 : Nat) "HumpYard$Cut" "caughtBy" "I") ∈ WS := WS_m2 (i := 20) rfl rfl
theorem kf_X2_184 : (Cond.fieldLink "HumpYard" (184 : Nat) "HumpYard$Cut" "caughtBy" "I") ∈ WS := WS_m2 (i := 21) rfl rfl
theorem km_X2_115 : (Cond.methodLink "HumpYard" (115 : Nat) ({ cls := "java/util/ArrayList", name := "add", desc := "(Ljava/lang/Object;)Z" } : MethodName)) ∈ WS := WS_m2 (i := 43) rfl rfl
theorem kn_Jx4a65c_add_9ea2d : (Cond.instanceMethod ({ cls := "java/util/ArrayList", name := "add", desc := "(Ljava/lang/Object;)Z" } : MethodName)) ∈ WS := WS_m2 (i := 44) rfl rfl
theorem kv_Jx4a65c_add_9ea2d : (Cond.selects "java/util/ArrayList" ({ cls := "java/util/ArrayList", name := "add", desc := "(Ljava/lang/Object;)Z" } : MethodName) ({ cls := "java/util/ArrayList", name := "add", desc := "(Ljava/lang/Object;)Z" } : MethodName)) ∈ WS := WS_m2 (i := 45) rfl rfl
theorem kc_Jx4a65c_add_9ea2d : (Cond.code ({ cls := "java/util/ArrayList", name := "add", desc := "(Ljava/lang/Object;)Z" } : MethodName) prog_20_method_25_code (2 : Nat) (Option.some ClassFile.FieldType.boolean)) ∈ WS := WS_m2 (i := 46) rfl rfl
theorem km_Jx4a65c_131 : (Cond.methodLink "java/util/ArrayList" (131 : Nat) ({ cls := "java/util/ArrayList", name := "add", desc := "(Ljava/lang/Object;[Ljava/lang/Object;I)V" } : MethodName)) ∈ WS := WS_m2 (i := 47) rfl rfl
theorem kn_Jx4a65c_add_72be8 : (Cond.instanceMethod ({ cls := "java/util/ArrayList", name := "add", desc := "(Ljava/lang/Object;[Ljava/lang/Object;I)V" } : MethodName)) ∈ WS := WS_m2 (i := 49) rfl rfl
theorem kc_Jx4a65c_add_72be8 : (Cond.code ({ cls := "java/util/ArrayList", name := "add", desc := "(Ljava/lang/Object;[Ljava/lang/Object;I)V" } : MethodName) prog_20_method_24_code (4 : Nat) (Option.none : Option ClassFile.FieldType)) ∈ WS := WS_m2 (i := 50) rfl rfl
theorem km_Jx4a65c_129 : (Cond.methodLink "java/util/ArrayList" (129 : Nat) ({ cls := "java/util/ArrayList", name := "grow", desc := "()[Ljava/lang/Object;" } : MethodName)) ∈ WS := WS_m2 (i := 51) rfl rfl
theorem kn_Jx4a65c_grow_d5877 : (Cond.instanceMethod ({ cls := "java/util/ArrayList", name := "grow", desc := "()[Ljava/lang/Object;" } : MethodName)) ∈ WS := WS_m2 (i := 53) rfl rfl
theorem kc_Jx4a65c_grow_d5877 : (Cond.code ({ cls := "java/util/ArrayList", name := "grow", desc := "()[Ljava/lang/Object;" } : MethodName) prog_20_method_7_code (1 : Nat) (Option.some (ClassFile.FieldType.array (ClassFile.FieldType.object "java/lang/Object")))) ∈ WS := WS_m2 (i := 54) rfl rfl
theorem km_Jx4a65c_69 : (Cond.methodLink "java/util/ArrayList" (69 : Nat) ({ cls := "java/util/ArrayList", name := "grow", desc := "(I)[Ljava/lang/Object;" } : MethodName)) ∈ WS := WS_m2 (i := 55) rfl rfl
theorem kn_Jx4a65c_grow_92f84 : (Cond.instanceMethod ({ cls := "java/util/ArrayList", name := "grow", desc := "(I)[Ljava/lang/Object;" } : MethodName)) ∈ WS := WS_m2 (i := 57) rfl rfl
theorem kc_Jx4a65c_grow_92f84 : (Cond.code ({ cls := "java/util/ArrayList", name := "grow", desc := "(I)[Ljava/lang/Object;" } : MethodName) prog_20_method_6_code (4 : Nat) (Option.some (ClassFile.FieldType.array (ClassFile.FieldType.object "java/lang/Object")))) ∈ WS := WS_m2 (i := 58) rfl rfl
theorem km_Jx4a65c_73 : (Cond.methodLink "java/util/ArrayList" (73 : Nat) ({ cls := "jdk/internal/util/ArraysSupport", name := "newLength", desc := "(III)I" } : MethodName)) ∈ WS := WS_m2 (i := 59) rfl rfl
theorem ks_J8_newLength_cabcc : (Cond.static ({ cls := "jdk/internal/util/ArraysSupport", name := "newLength", desc := "(III)I" } : MethodName)) ∈ WS := WS_m2 (i := 60) rfl rfl
theorem kc_J8_newLength_cabcc : (Cond.code ({ cls := "jdk/internal/util/ArraysSupport", name := "newLength", desc := "(III)I" } : MethodName) prog_27_method_27_code (4 : Nat) (Option.some ClassFile.FieldType.int)) ∈ WS := WS_m2 (i := 61) rfl rfl
theorem km_J8_194 : (Cond.methodLink "jdk/internal/util/ArraysSupport" (194 : Nat) ({ cls := "java/lang/Math", name := "max", desc := "(II)I" } : MethodName)) ∈ WS := WS_m2 (i := 62) rfl rfl
theorem ks_J9_max_7cf53 : (Cond.static ({ cls := "java/lang/Math", name := "max", desc := "(II)I" } : MethodName)) ∈ WS := WS_m2 (i := 63) rfl rfl
theorem kc_J9_max_7cf53 : (Cond.code ({ cls := "java/lang/Math", name := "max", desc := "(II)I" } : MethodName) prog_12_method_65_code (2 : Nat) (Option.some ClassFile.FieldType.int)) ∈ WS := WS_m2 (i := 64) rfl rfl
theorem kd_J8_200 : (Cond.constant "jdk/internal/util/ArraysSupport" (200 : Nat) (2147483639 : Int32)) ∈ WS := WS_m2 (i := 65) rfl rfl
theorem km_J8_201 : (Cond.methodLink "jdk/internal/util/ArraysSupport" (201 : Nat) ({ cls := "jdk/internal/util/ArraysSupport", name := "hugeLength", desc := "(II)I" } : MethodName)) ∈ WS := WS_m2 (i := 66) rfl rfl
theorem ks_J8_hugeLength_7cf53 : (Cond.static ({ cls := "jdk/internal/util/ArraysSupport", name := "hugeLength", desc := "(II)I" } : MethodName)) ∈ WS := WS_m2 (i := 67) rfl rfl
theorem kc_J8_hugeLength_7cf53 : (Cond.code ({ cls := "jdk/internal/util/ArraysSupport", name := "hugeLength", desc := "(II)I" } : MethodName) prog_27_method_28_code (3 : Nat) (Option.some ClassFile.FieldType.int)) ∈ WS := WS_m2 (i := 68) rfl rfl
theorem km_Jx4a65c_66 : (Cond.methodLink "java/util/ArrayList" (66 : Nat) ({ cls := "java/util/Arrays", name := "copyOf", desc := "([Ljava/lang/Object;I)[Ljava/lang/Object;" } : MethodName)) ∈ WS := WS_m2 (i := 69) rfl rfl
theorem ks_J7_copyOf_1904c : (Cond.static ({ cls := "java/util/Arrays", name := "copyOf", desc := "([Ljava/lang/Object;I)[Ljava/lang/Object;" } : MethodName)) ∈ WS := WS_m2 (i := 70) rfl rfl
theorem kc_J7_copyOf_1904c : (Cond.code ({ cls := "java/util/Arrays", name := "copyOf", desc := "([Ljava/lang/Object;I)[Ljava/lang/Object;" } : MethodName) prog_21_method_119_code (2 : Nat) (Option.some (ClassFile.FieldType.array (ClassFile.FieldType.object "java/lang/Object")))) ∈ WS := WS_m2 (i := 71) rfl rfl
theorem km_J7_86 : (Cond.methodLink "java/util/Arrays" (86 : Nat) ({ cls := "java/lang/Object", name := "getClass", desc := "()Ljava/lang/Class;" } : MethodName)) ∈ WS := WS_m2 (i := 72) rfl rfl
theorem kn_Object_getClass_42d1 : (Cond.instanceMethod ({ cls := "java/lang/Object", name := "getClass", desc := "()Ljava/lang/Class;" } : MethodName)) ∈ WS := WS_m2 (i := 73) rfl rfl
theorem kv_Object_getClass_42d1 : (Cond.selects "HumpYard" ({ cls := "java/lang/Object", name := "getClass", desc := "()Ljava/lang/Class;" } : MethodName) ({ cls := "java/lang/Object", name := "getClass", desc := "()Ljava/lang/Class;" } : MethodName)) ∈ WS := WS_m2 (i := 75) rfl rfl
theorem kv_Object_getClass_42d1_2 : (Cond.selects "HumpYard$Cut" ({ cls := "java/lang/Object", name := "getClass", desc := "()Ljava/lang/Class;" } : MethodName) ({ cls := "java/lang/Object", name := "getClass", desc := "()Ljava/lang/Class;" } : MethodName)) ∈ WS := WS_m2 (i := 76) rfl rfl
theorem kv_Object_getClass_42d1_3 : (Cond.selects "HumpYard$EventLog" ({ cls := "java/lang/Object", name := "getClass", desc := "()Ljava/lang/Class;" } : MethodName) ({ cls := "java/lang/Object", name := "getClass", desc := "()Ljava/lang/Class;" } : MethodName)) ∈ WS := WS_m2 (i := 77) rfl rfl
theorem kv_Object_getClass_42d1_4 : (Cond.selects "HumpYardModel" ({ cls := "java/lang/Object", name := "getClass", desc := "()Ljava/lang/Class;" } : MethodName) ({ cls := "java/lang/Object", name := "getClass", desc := "()Ljava/lang/Class;" } : MethodName)) ∈ WS := WS_m2 (i := 78) rfl rfl
theorem kv_Object_getClass_42d1_5 : (Cond.selects "java/lang/IllegalArgumentException" ({ cls := "java/lang/Object", name := "getClass", desc := "()Ljava/lang/Class;" } : MethodName) ({ cls := "java/lang/Object", name := "getClass", desc := "()Ljava/lang/Class;" } : MethodName)) ∈ WS := WS_m2 (i := 79) rfl rfl
theorem kv_Object_getClass_42d1_6 : (Cond.selects "java/lang/IndexOutOfBoundsException" ({ cls := "java/lang/Object", name := "getClass", desc := "()Ljava/lang/Class;" } : MethodName) ({ cls := "java/lang/Object", name := "getClass", desc := "()Ljava/lang/Class;" } : MethodName)) ∈ WS := WS_m2 (i := 80) rfl rfl
theorem kv_Object_getClass_42d1_7 : (Cond.selects "java/lang/UnsupportedOperationException" ({ cls := "java/lang/Object", name := "getClass", desc := "()Ljava/lang/Class;" } : MethodName) ({ cls := "java/lang/Object", name := "getClass", desc := "()Ljava/lang/Class;" } : MethodName)) ∈ WS := WS_m2 (i := 81) rfl rfl
theorem kv_Object_getClass_42d1_8 : (Cond.selects "java/util/ArrayList" ({ cls := "java/lang/Object", name := "getClass", desc := "()Ljava/lang/Class;" } : MethodName) ({ cls := "java/lang/Object", name := "getClass", desc := "()Ljava/lang/Class;" } : MethodName)) ∈ WS := WS_m2 (i := 82) rfl rfl
theorem km_J7_300 : (Cond.methodLink "java/util/Arrays" (300 : Nat) ({ cls := "java/util/Arrays", name := "copyOf", desc := "([Ljava/lang/Object;ILjava/lang/Class;)[Ljava/lang/Object;" } : MethodName)) ∈ WS := WS_m2 (i := 84) rfl rfl
theorem ks_J7_copyOf_6403c : (Cond.static ({ cls := "java/util/Arrays", name := "copyOf", desc := "([Ljava/lang/Object;ILjava/lang/Class;)[Ljava/lang/Object;" } : MethodName)) ∈ WS := WS_m2 (i := 85) rfl rfl
theorem kc_J7_copyOf_6403c : (Cond.code ({ cls := "java/util/Arrays", name := "copyOf", desc := "([Ljava/lang/Object;ILjava/lang/Class;)[Ljava/lang/Object;" } : MethodName) prog_21_method_120_code (4 : Nat) (Option.some (ClassFile.FieldType.array (ClassFile.FieldType.object "java/lang/Object")))) ∈ WS := WS_m2 (i := 86) rfl rfl
theorem kl_J7_110 : (Cond.classLink "java/util/Arrays" (110 : Nat) "[Ljava/lang/Object;") ∈ WS := WS_m2 (i := 87) rfl rfl
theorem kl_J7_2 : (Cond.classLink "java/util/Arrays" (2 : Nat) "java/lang/Object") ∈ WS := WS_m2 (i := 89) rfl rfl
theorem km_J7_304 : (Cond.methodLink "java/util/Arrays" (304 : Nat) ({ cls := "java/lang/Math", name := "min", desc := "(II)I" } : MethodName)) ∈ WS := WS_m2 (i := 90) rfl rfl
theorem ks_J9_min_7cf53 : (Cond.static ({ cls := "java/lang/Math", name := "min", desc := "(II)I" } : MethodName)) ∈ WS := WS_m2 (i := 91) rfl rfl
theorem kc_J9_min_7cf53 : (Cond.code ({ cls := "java/lang/Math", name := "min", desc := "(II)I" } : MethodName) prog_12_method_69_code (2 : Nat) (Option.some ClassFile.FieldType.int)) ∈ WS := WS_m2 (i := 92) rfl rfl
theorem km_J7_150 : (Cond.methodLink "java/util/Arrays" (150 : Nat) ({ cls := "java/lang/System", name := "arraycopy", desc := "(Ljava/lang/Object;ILjava/lang/Object;II)V" } : MethodName)) ∈ WS := WS_m2 (i := 93) rfl rfl
theorem ks_System_arraycopy_c958 : (Cond.static ({ cls := "java/lang/System", name := "arraycopy", desc := "(Ljava/lang/Object;ILjava/lang/Object;II)V" } : MethodName)) ∈ WS := WS_m2 (i := 94) rfl rfl
theorem km_Jx4a65c_79 : (Cond.methodLink "java/util/ArrayList" (79 : Nat) ({ cls := "java/lang/Math", name := "max", desc := "(II)I" } : MethodName)) ∈ WS := WS_m2 (i := 96) rfl rfl
theorem kl_Jx4a65c_7 : (Cond.classLink "java/util/ArrayList" (7 : Nat) "java/lang/Object") ∈ WS := WS_m2 (i := 97) rfl rfl
theorem km_L_77 : (Cond.methodLink "HumpYardLaw" (77 : Nat) ({ cls := "HumpYardLaw", name := "push", desc := "(LHumpYard;D[D)I" } : MethodName)) ∈ WS := WS_m2 (i := 98) rfl rfl
theorem ks_L_push : (Cond.static ({ cls := "HumpYardLaw", name := "push", desc := "(LHumpYard;D[D)I" } : MethodName)) ∈ WS := WS_m2 (i := 99) rfl rfl
theorem kc_L_push : (Cond.codeWith ({ cls := "HumpYardLaw", name := "push", desc := "(LHumpYard;D[D)I" } : MethodName) method_4_code (5 : Nat) (Option.some ClassFile.FieldType.int) [((0 : Nat), (8 : Nat), (11 : Nat), (13 : Nat))]) ∈ WS := WS_m2 (i := 100) rfl rfl
theorem km_L_17 : (Cond.methodLink "HumpYardLaw" (17 : Nat) ({ cls := "HumpYard", name := "push", desc := "(D)D" } : MethodName)) ∈ WS := WS_m2 (i := 101) rfl rfl
theorem kn_X2_push : (Cond.instanceMethod ({ cls := "HumpYard", name := "push", desc := "(D)D" } : MethodName)) ∈ WS := WS_m2 (i := 102) rfl rfl
theorem kv_X2_push : (Cond.selects "HumpYard" ({ cls := "HumpYard", name := "push", desc := "(D)D" } : MethodName) ({ cls := "HumpYard", name := "push", desc := "(D)D" } : MethodName)) ∈ WS := WS_m2 (i := 103) rfl rfl
theorem kc_X2_push : (Cond.code ({ cls := "HumpYard", name := "push", desc := "(D)D" } : MethodName) prog_1_method_3_code (5 : Nat) (Option.some ClassFile.FieldType.double)) ∈ WS := WS_m2 (i := 104) rfl rfl
theorem km_L_81 : (Cond.methodLink "HumpYardLaw" (81 : Nat) ({ cls := "HumpYardLaw", name := "wish", desc := "(LHumpYard;ID[D)I" } : MethodName)) ∈ WS := WS_m2 (i := 106) rfl rfl
theorem ks_L_wish : (Cond.static ({ cls := "HumpYardLaw", name := "wish", desc := "(LHumpYard;ID[D)I" } : MethodName)) ∈ WS := WS_m2 (i := 107) rfl rfl
theorem kc_L_wish : (Cond.codeWith ({ cls := "HumpYardLaw", name := "wish", desc := "(LHumpYard;ID[D)I" } : MethodName) method_5_code (6 : Nat) (Option.some ClassFile.FieldType.int) [((0 : Nat), (10 : Nat), (13 : Nat), (25 : Nat)), ((0 : Nat), (10 : Nat), (17 : Nat), (13 : Nat))]) ∈ WS := WS_m2 (i := 108) rfl rfl
theorem kl_L_25 : (Cond.classLink "HumpYardLaw" (25 : Nat) "java/lang/IndexOutOfBoundsException") ∈ WS := WS_m2 (i := 109) rfl rfl
theorem km_L_21 : (Cond.methodLink "HumpYardLaw" (21 : Nat) ({ cls := "HumpYard", name := "wish", desc := "(ID)D" } : MethodName)) ∈ WS := WS_m2 (i := 110) rfl rfl
theorem kn_X2_wish : (Cond.instanceMethod ({ cls := "HumpYard", name := "wish", desc := "(ID)D" } : MethodName)) ∈ WS := WS_m2 (i := 111) rfl rfl
theorem kv_X2_wish : (Cond.selects "HumpYard" ({ cls := "HumpYard", name := "wish", desc := "(ID)D" } : MethodName) ({ cls := "HumpYard", name := "wish", desc := "(ID)D" } : MethodName)) ∈ WS := WS_m2 (i := 112) rfl rfl
theorem kc_X2_wish : (Cond.code ({ cls := "HumpYard", name := "wish", desc := "(ID)D" } : MethodName) prog_1_method_4_code (6 : Nat) (Option.some ClassFile.FieldType.double)) ∈ WS := WS_m2 (i := 113) rfl rfl
theorem kl_X2_124 : (Cond.classLink "HumpYard" (124 : Nat) "java/lang/IndexOutOfBoundsException") ∈ WS := WS_m2 (i := 114) rfl rfl
theorem kt_java_lang_IndexOutOfBoundsException : (Cond.instantiable "java/lang/IndexOutOfBoundsException" (6 : Nat)) ∈ WS := WS_m2 (i := 115) rfl rfl
theorem kv_Throwable_fillInStackTrace_1897_3 : (Cond.selects "java/lang/IndexOutOfBoundsException" ({ cls := "java/lang/Throwable", name := "fillInStackTrace", desc := "(I)Ljava/lang/Throwable;" } : MethodName) ({ cls := "java/lang/Throwable", name := "fillInStackTrace", desc := "(I)Ljava/lang/Throwable;" } : MethodName)) ∈ WS := WS_m2 (i := 117) rfl rfl
theorem km_X2_128 : (Cond.methodLink "HumpYard" (128 : Nat) ({ cls := "java/lang/IndexOutOfBoundsException", name := "<init>", desc := "(Ljava/lang/String;)V" } : MethodName)) ∈ WS := WS_m2 (i := 124) rfl rfl
theorem kn_IndexOutOfBoundsException__init__ddc4 : (Cond.instanceMethod ({ cls := "java/lang/IndexOutOfBoundsException", name := "<init>", desc := "(Ljava/lang/String;)V" } : MethodName)) ∈ WS := WS_m2 (i := 125) rfl rfl
theorem kc_IndexOutOfBoundsException__init__ddc4 : (Cond.code ({ cls := "java/lang/IndexOutOfBoundsException", name := "<init>", desc := "(Ljava/lang/String;)V" } : MethodName) prog_10_method_2_code (2 : Nat) (Option.none : Option ClassFile.FieldType)) ∈ WS := WS_m2 (i := 126) rfl rfl
theorem km_java_lang_IndexOutOfBoundsException_7 : (Cond.methodLink "java/lang/IndexOutOfBoundsException" (7 : Nat) ({ cls := "java/lang/RuntimeException", name := "<init>", desc := "(Ljava/lang/String;)V" } : MethodName)) ∈ WS := WS_m2 (i := 127) rfl rfl
theorem km_L_85 : (Cond.methodLink "HumpYardLaw" (85 : Nat) ({ cls := "HumpYardLaw", name := "stick", desc := "(LHumpYard;IZ[J)I" } : MethodName)) ∈ WS := WS_m2 (i := 131) rfl rfl
theorem ks_L_stick : (Cond.static ({ cls := "HumpYardLaw", name := "stick", desc := "(LHumpYard;IZ[J)I" } : MethodName)) ∈ WS := WS_m2 (i := 132) rfl rfl
theorem kc_L_stick : (Cond.codeWith ({ cls := "HumpYardLaw", name := "stick", desc := "(LHumpYard;IZ[J)I" } : MethodName) method_6_code (5 : Nat) (Option.some ClassFile.FieldType.int) [((0 : Nat), (17 : Nat), (20 : Nat), (25 : Nat))]) ∈ WS := WS_m2 (i := 133) rfl rfl
theorem km_L_27 : (Cond.methodLink "HumpYardLaw" (27 : Nat) ({ cls := "HumpYard", name := "stick", desc := "(IZ)Z" } : MethodName)) ∈ WS := WS_m2 (i := 134) rfl rfl
theorem kn_X2_stick : (Cond.instanceMethod ({ cls := "HumpYard", name := "stick", desc := "(IZ)Z" } : MethodName)) ∈ WS := WS_m2 (i := 135) rfl rfl
theorem kv_X2_stick : (Cond.selects "HumpYard" ({ cls := "HumpYard", name := "stick", desc := "(IZ)Z" } : MethodName) ({ cls := "HumpYard", name := "stick", desc := "(IZ)Z" } : MethodName)) ∈ WS := WS_m2 (i := 136) rfl rfl
theorem kc_X2_stick : (Cond.code ({ cls := "HumpYard", name := "stick", desc := "(IZ)Z" } : MethodName) prog_1_method_5_code (4 : Nat) (Option.some ClassFile.FieldType.boolean)) ∈ WS := WS_m2 (i := 137) rfl rfl
theorem km_X2_131 : (Cond.methodLink "HumpYard" (131 : Nat) ({ cls := "HumpYard", name := "isPoint", desc := "(I)Z" } : MethodName)) ∈ WS := WS_m2 (i := 138) rfl rfl
theorem ks_X2_isPoint : (Cond.static ({ cls := "HumpYard", name := "isPoint", desc := "(I)Z" } : MethodName)) ∈ WS := WS_m2 (i := 139) rfl rfl
theorem kc_X2_isPoint : (Cond.code ({ cls := "HumpYard", name := "isPoint", desc := "(I)Z" } : MethodName) prog_1_method_19_code (1 : Nat) (Option.some ClassFile.FieldType.boolean)) ∈ WS := WS_m2 (i := 140) rfl rfl
theorem km_L_89 : (Cond.methodLink "HumpYardLaw" (89 : Nat) ({ cls := "HumpYardLaw", name := "fill", desc := "(LHumpYard;ID[D)I" } : MethodName)) ∈ WS := WS_m2 (i := 142) rfl rfl
theorem ks_L_fill : (Cond.static ({ cls := "HumpYardLaw", name := "fill", desc := "(LHumpYard;ID[D)I" } : MethodName)) ∈ WS := WS_m2 (i := 143) rfl rfl
theorem kc_L_fill : (Cond.codeWith ({ cls := "HumpYardLaw", name := "fill", desc := "(LHumpYard;ID[D)I" } : MethodName) method_7_code (6 : Nat) (Option.some ClassFile.FieldType.int) [((0 : Nat), (10 : Nat), (13 : Nat), (25 : Nat)), ((0 : Nat), (10 : Nat), (17 : Nat), (13 : Nat))]) ∈ WS := WS_m2 (i := 144) rfl rfl
theorem km_L_31 : (Cond.methodLink "HumpYardLaw" (31 : Nat) ({ cls := "HumpYard", name := "fill", desc := "(ID)D" } : MethodName)) ∈ WS := WS_m2 (i := 145) rfl rfl
theorem kn_X2_fill : (Cond.instanceMethod ({ cls := "HumpYard", name := "fill", desc := "(ID)D" } : MethodName)) ∈ WS := WS_m2 (i := 146) rfl rfl
theorem kv_X2_fill : (Cond.selects "HumpYard" ({ cls := "HumpYard", name := "fill", desc := "(ID)D" } : MethodName) ({ cls := "HumpYard", name := "fill", desc := "(ID)D" } : MethodName)) ∈ WS := WS_m2 (i := 147) rfl rfl
theorem kc_X2_fill : (Cond.code ({ cls := "HumpYard", name := "fill", desc := "(ID)D" } : MethodName) prog_1_method_6_code (6 : Nat) (Option.some ClassFile.FieldType.double)) ∈ WS := WS_m2 (i := 148) rfl rfl
theorem km_L_92 : (Cond.methodLink "HumpYardLaw" (92 : Nat) ({ cls := "HumpYardLaw", name := "tick", desc := "(LHumpYard;I[J)I" } : MethodName)) ∈ WS := WS_m2 (i := 150) rfl rfl
theorem ks_L_tick : (Cond.static ({ cls := "HumpYardLaw", name := "tick", desc := "(LHumpYard;I[J)I" } : MethodName)) ∈ WS := WS_m2 (i := 151) rfl rfl
theorem kc_L_tick : (Cond.codeWith ({ cls := "HumpYardLaw", name := "tick", desc := "(LHumpYard;I[J)I" } : MethodName) method_8_code (4 : Nat) (Option.some ClassFile.FieldType.int) [((0 : Nat), (9 : Nat), (12 : Nat), (13 : Nat))]) ∈ WS := WS_m2 (i := 152) rfl rfl
theorem km_L_34 : (Cond.methodLink "HumpYardLaw" (34 : Nat) ({ cls := "HumpYard", name := "tick", desc := "(I)I" } : MethodName)) ∈ WS := WS_m2 (i := 153) rfl rfl
theorem kn_X2_tick : (Cond.instanceMethod ({ cls := "HumpYard", name := "tick", desc := "(I)I" } : MethodName)) ∈ WS := WS_m2 (i := 154) rfl rfl
theorem kv_X2_tick : (Cond.selects "HumpYard" ({ cls := "HumpYard", name := "tick", desc := "(I)I" } : MethodName) ({ cls := "HumpYard", name := "tick", desc := "(I)I" } : MethodName)) ∈ WS := WS_m2 (i := 155) rfl rfl
theorem kc_X2_tick : (Cond.code ({ cls := "HumpYard", name := "tick", desc := "(I)I" } : MethodName) prog_1_method_7_code (4 : Nat) (Option.some ClassFile.FieldType.int)) ∈ WS := WS_m2 (i := 156) rfl rfl
theorem km_X2_143 : (Cond.methodLink "HumpYard" (143 : Nat) ({ cls := "HumpYard", name := "goOnTurning", desc := "()V" } : MethodName)) ∈ WS := WS_m2 (i := 158) rfl rfl
theorem kn_X2_goOnTurning : (Cond.instanceMethod ({ cls := "HumpYard", name := "goOnTurning", desc := "()V" } : MethodName)) ∈ WS := WS_m2 (i := 160) rfl rfl
theorem kc_X2_goOnTurning : (Cond.code ({ cls := "HumpYard", name := "goOnTurning", desc := "()V" } : MethodName) prog_1_method_26_code (2 : Nat) (Option.none : Option ClassFile.FieldType)) ∈ WS := WS_m2 (i := 161) rfl rfl
theorem km_X2_146 : (Cond.methodLink "HumpYard" (146 : Nat) ({ cls := "HumpYard", name := "beginTurning", desc := "()V" } : MethodName)) ∈ WS := WS_m2 (i := 162) rfl rfl
theorem kn_X2_beginTurning : (Cond.instanceMethod ({ cls := "HumpYard", name := "beginTurning", desc := "()V" } : MethodName)) ∈ WS := WS_m2 (i := 164) rfl rfl
theorem kc_X2_beginTurning : (Cond.code ({ cls := "HumpYard", name := "beginTurning", desc := "()V" } : MethodName) prog_1_method_27_code (3 : Nat) (Option.none : Option ClassFile.FieldType)) ∈ WS := WS_m2 (i := 165) rfl rfl
theorem km_X2_189 : (Cond.methodLink "HumpYard" (189 : Nat) ({ cls := "HumpYard", name := "isBusy", desc := "(I)Z" } : MethodName)) ∈ WS := WS_m2 (i := 166) rfl rfl
theorem kn_X2_isBusy : (Cond.instanceMethod ({ cls := "HumpYard", name := "isBusy", desc := "(I)Z" } : MethodName)) ∈ WS := WS_m2 (i := 168) rfl rfl
theorem kc_X2_isBusy : (Cond.code ({ cls := "HumpYard", name := "isBusy", desc := "(I)Z" } : MethodName) prog_1_method_28_code (5 : Nat) (Option.some ClassFile.FieldType.boolean)) ∈ WS := WS_m2 (i := 169) rfl rfl
theorem km_X2_222 : (Cond.methodLink "HumpYard" (222 : Nat) ({ cls := "HumpYard", name := "pointPlace", desc := "(I)I" } : MethodName)) ∈ WS := WS_m2 (i := 170) rfl rfl
theorem ks_X2_pointPlace : (Cond.static ({ cls := "HumpYard", name := "pointPlace", desc := "(I)I" } : MethodName)) ∈ WS := WS_m2 (i := 171) rfl rfl
theorem kc_X2_pointPlace : (Cond.code ({ cls := "HumpYard", name := "pointPlace", desc := "(I)I" } : MethodName) prog_1_method_23_code (1 : Nat) (Option.some ClassFile.FieldType.int)) ∈ WS := WS_m2 (i := 172) rfl rfl
theorem km_X2_181 : (Cond.methodLink "HumpYard" (181 : Nat) ({ cls := "HumpYard", name := "levelOf", desc := "(I)I" } : MethodName)) ∈ WS := WS_m2 (i := 173) rfl rfl
theorem ks_X2_levelOf : (Cond.static ({ cls := "HumpYard", name := "levelOf", desc := "(I)I" } : MethodName)) ∈ WS := WS_m2 (i := 174) rfl rfl
theorem kc_X2_levelOf : (Cond.code ({ cls := "HumpYard", name := "levelOf", desc := "(I)I" } : MethodName) prog_1_method_22_code (1 : Nat) (Option.some ClassFile.FieldType.int)) ∈ WS := WS_m2 (i := 175) rfl rfl
theorem km_X2_208 : (Cond.methodLink "HumpYard" (208 : Nat) ({ cls := "java/util/ArrayList", name := "get", desc := "(I)Ljava/lang/Object;" } : MethodName)) ∈ WS := WS_m2 (i := 176) rfl rfl
theorem kn_Jx4a65c_get_915e3 : (Cond.instanceMethod ({ cls := "java/util/ArrayList", name := "get", desc := "(I)Ljava/lang/Object;" } : MethodName)) ∈ WS := WS_m2 (i := 177) rfl rfl
theorem kv_Jx4a65c_get_915e3 : (Cond.selects "java/util/ArrayList" ({ cls := "java/util/ArrayList", name := "get", desc := "(I)Ljava/lang/Object;" } : MethodName) ({ cls := "java/util/ArrayList", name := "get", desc := "(I)Ljava/lang/Object;" } : MethodName)) ∈ WS := WS_m2 (i := 178) rfl rfl
theorem kc_Jx4a65c_get_915e3 : (Cond.code ({ cls := "java/util/ArrayList", name := "get", desc := "(I)Ljava/lang/Object;" } : MethodName) prog_20_method_20_code (2 : Nat) (Option.some (ClassFile.FieldType.object "java/lang/Object"))) ∈ WS := WS_m2 (i := 179) rfl rfl
theorem km_Jx4a65c_118 : (Cond.methodLink "java/util/ArrayList" (118 : Nat) ({ cls := "java/util/Objects", name := "checkIndex", desc := "(II)I" } : MethodName)) ∈ WS := WS_m2 (i := 180) rfl rfl
theorem ks_J15_checkIndex_7cf53 : (Cond.static ({ cls := "java/util/Objects", name := "checkIndex", desc := "(II)I" } : MethodName)) ∈ WS := WS_m2 (i := 181) rfl rfl
theorem kc_J15_checkIndex_7cf53 : (Cond.code ({ cls := "java/util/Objects", name := "checkIndex", desc := "(II)I" } : MethodName) prog_24_method_17_code (2 : Nat) (Option.some ClassFile.FieldType.int)) ∈ WS := WS_m2 (i := 182) rfl rfl
theorem km_J15_105 : (Cond.methodLink "java/util/Objects" (105 : Nat) ({ cls := "jdk/internal/util/Preconditions", name := "checkIndex", desc := "(IILjava/util/function/BiFunction;)I" } : MethodName)) ∈ WS := WS_m2 (i := 183) rfl rfl
theorem ks_J3_checkIndex_8e157 : (Cond.static ({ cls := "jdk/internal/util/Preconditions", name := "checkIndex", desc := "(IILjava/util/function/BiFunction;)I" } : MethodName)) ∈ WS := WS_m2 (i := 184) rfl rfl
theorem kc_J3_checkIndex_8e157 : (Cond.code ({ cls := "jdk/internal/util/Preconditions", name := "checkIndex", desc := "(IILjava/util/function/BiFunction;)I" } : MethodName) prog_28_method_11_code (3 : Nat) (Option.some ClassFile.FieldType.int)) ∈ WS := WS_m2 (i := 185) rfl rfl
theorem km_Jx4a65c_123 : (Cond.methodLink "java/util/ArrayList" (123 : Nat) ({ cls := "java/util/ArrayList", name := "elementData", desc := "(I)Ljava/lang/Object;" } : MethodName)) ∈ WS := WS_m2 (i := 186) rfl rfl
theorem kn_Jx4a65c_elementData_915e3 : (Cond.instanceMethod ({ cls := "java/util/ArrayList", name := "elementData", desc := "(I)Ljava/lang/Object;" } : MethodName)) ∈ WS := WS_m2 (i := 187) rfl rfl
theorem kv_Jx4a65c_elementData_915e3 : (Cond.selects "java/util/ArrayList" ({ cls := "java/util/ArrayList", name := "elementData", desc := "(I)Ljava/lang/Object;" } : MethodName) ({ cls := "java/util/ArrayList", name := "elementData", desc := "(I)Ljava/lang/Object;" } : MethodName)) ∈ WS := WS_m2 (i := 188) rfl rfl
theorem kc_Jx4a65c_elementData_915e3 : (Cond.code ({ cls := "java/util/ArrayList", name := "elementData", desc := "(I)Ljava/lang/Object;" } : MethodName) prog_20_method_18_code (2 : Nat) (Option.some (ClassFile.FieldType.object "java/lang/Object"))) ∈ WS := WS_m2 (i := 189) rfl rfl
theorem km_X2_225 : (Cond.methodLink "HumpYard" (225 : Nat) ({ cls := "HumpYard$Cut", name := "rear", desc := "()D" } : MethodName)) ∈ WS := WS_m2 (i := 190) rfl rfl
theorem kn_X0_rear : (Cond.instanceMethod ({ cls := "HumpYard$Cut", name := "rear", desc := "()D" } : MethodName)) ∈ WS := WS_m2 (i := 191) rfl rfl
theorem kv_X0_rear : (Cond.selects "HumpYard$Cut" ({ cls := "HumpYard$Cut", name := "rear", desc := "()D" } : MethodName) ({ cls := "HumpYard$Cut", name := "rear", desc := "()D" } : MethodName)) ∈ WS := WS_m2 (i := 192) rfl rfl
theorem kc_X0_rear : (Cond.code ({ cls := "HumpYard$Cut", name := "rear", desc := "()D" } : MethodName) prog_2_method_2_code (1 : Nat) (Option.some ClassFile.FieldType.double)) ∈ WS := WS_m2 (i := 193) rfl rfl
theorem kd_X2_229 : (Cond.constantDouble "HumpYard" (229 : Nat) (4612811918334230528 : UInt64)) ∈ WS := WS_m2 (i := 194) rfl rfl
theorem km_X2_231 : (Cond.methodLink "HumpYard" (231 : Nat) ({ cls := "HumpYard", name := "isOneWay", desc := "(II)Z" } : MethodName)) ∈ WS := WS_m2 (i := 195) rfl rfl
theorem ks_X2_isOneWay : (Cond.static ({ cls := "HumpYard", name := "isOneWay", desc := "(II)Z" } : MethodName)) ∈ WS := WS_m2 (i := 196) rfl rfl
theorem kc_X2_isOneWay : (Cond.code ({ cls := "HumpYard", name := "isOneWay", desc := "(II)Z" } : MethodName) prog_1_method_25_code (2 : Nat) (Option.some ClassFile.FieldType.boolean)) ∈ WS := WS_m2 (i := 197) rfl rfl
theorem km_X2_212 : (Cond.methodLink "HumpYard" (212 : Nat) ({ cls := "HumpYard", name := "leadsTo", desc := "(II)Z" } : MethodName)) ∈ WS := WS_m2 (i := 198) rfl rfl
theorem ks_X2_leadsTo : (Cond.static ({ cls := "HumpYard", name := "leadsTo", desc := "(II)Z" } : MethodName)) ∈ WS := WS_m2 (i := 199) rfl rfl
theorem kc_X2_leadsTo : (Cond.code ({ cls := "HumpYard", name := "leadsTo", desc := "(II)Z" } : MethodName) prog_1_method_24_code (4 : Nat) (Option.some ClassFile.FieldType.boolean)) ∈ WS := WS_m2 (i := 200) rfl rfl
theorem km_X2_216 : (Cond.methodLink "HumpYard" (216 : Nat) ({ cls := "HumpYard", name := "firstBoundFor", desc := "(I)LHumpYard$Cut;" } : MethodName)) ∈ WS := WS_m2 (i := 201) rfl rfl
theorem kn_X2_firstBoundFor : (Cond.instanceMethod ({ cls := "HumpYard", name := "firstBoundFor", desc := "(I)LHumpYard$Cut;" } : MethodName)) ∈ WS := WS_m2 (i := 203) rfl rfl
theorem kc_X2_firstBoundFor : (Cond.code ({ cls := "HumpYard", name := "firstBoundFor", desc := "(I)LHumpYard$Cut;" } : MethodName) prog_1_method_29_code (5 : Nat) (Option.some (ClassFile.FieldType.object "HumpYard$Cut"))) ∈ WS := WS_m2 (i := 204) rfl rfl
theorem km_X2_234 : (Cond.methodLink "HumpYard" (234 : Nat) ({ cls := "HumpYard$Cut", name := "isBoundFor", desc := "(I)Z" } : MethodName)) ∈ WS := WS_m2 (i := 205) rfl rfl
theorem kn_X0_isBoundFor : (Cond.instanceMethod ({ cls := "HumpYard$Cut", name := "isBoundFor", desc := "(I)Z" } : MethodName)) ∈ WS := WS_m2 (i := 206) rfl rfl
theorem kv_X0_isBoundFor : (Cond.selects "HumpYard$Cut" ({ cls := "HumpYard$Cut", name := "isBoundFor", desc := "(I)Z" } : MethodName) ({ cls := "HumpYard$Cut", name := "isBoundFor", desc := "(I)Z" } : MethodName)) ∈ WS := WS_m2 (i := 207) rfl rfl
theorem kc_X0_isBoundFor : (Cond.code ({ cls := "HumpYard$Cut", name := "isBoundFor", desc := "(I)Z" } : MethodName) prog_2_method_3_code (2 : Nat) (Option.some ClassFile.FieldType.boolean)) ∈ WS := WS_m2 (i := 208) rfl rfl
theorem km_X2_219 : (Cond.methodLink "HumpYard" (219 : Nat) ({ cls := "HumpYard$Cut", name := "wishedSide", desc := "(I)I" } : MethodName)) ∈ WS := WS_m2 (i := 210) rfl rfl
theorem kn_X0_wishedSide : (Cond.instanceMethod ({ cls := "HumpYard$Cut", name := "wishedSide", desc := "(I)I" } : MethodName)) ∈ WS := WS_m2 (i := 211) rfl rfl
theorem kv_X0_wishedSide : (Cond.selects "HumpYard$Cut" ({ cls := "HumpYard$Cut", name := "wishedSide", desc := "(I)I" } : MethodName) ({ cls := "HumpYard$Cut", name := "wishedSide", desc := "(I)I" } : MethodName)) ∈ WS := WS_m2 (i := 212) rfl rfl
theorem kc_X0_wishedSide : (Cond.code ({ cls := "HumpYard$Cut", name := "wishedSide", desc := "(I)I" } : MethodName) prog_2_method_4_code (2 : Nat) (Option.some ClassFile.FieldType.int)) ∈ WS := WS_m2 (i := 213) rfl rfl
theorem ks_X2_nodeBehind : (Cond.static ({ cls := "HumpYard", name := "nodeBehind", desc := "(II)I" } : MethodName)) ∈ WS := WS_m2 (i := 215) rfl rfl
theorem kc_X2_nodeBehind : (Cond.code ({ cls := "HumpYard", name := "nodeBehind", desc := "(II)I" } : MethodName) prog_1_method_20_code (2 : Nat) (Option.some ClassFile.FieldType.int)) ∈ WS := WS_m2 (i := 216) rfl rfl
theorem km_X2_149 : (Cond.methodLink "HumpYard" (149 : Nat) ({ cls := "HumpYard", name := "rollAll", desc := "()V" } : MethodName)) ∈ WS := WS_m2 (i := 217) rfl rfl
theorem kn_X2_rollAll : (Cond.instanceMethod ({ cls := "HumpYard", name := "rollAll", desc := "()V" } : MethodName)) ∈ WS := WS_m2 (i := 219) rfl rfl
theorem kc_X2_rollAll : (Cond.code ({ cls := "HumpYard", name := "rollAll", desc := "()V" } : MethodName) prog_1_method_30_code (7 : Nat) (Option.none : Option ClassFile.FieldType)) ∈ WS := WS_m2 (i := 220) rfl rfl
theorem km_X2_237 : (Cond.methodLink "HumpYard" (237 : Nat) ({ cls := "HumpYard", name := "acceleration", desc := "(LHumpYard$Cut;)D" } : MethodName)) ∈ WS := WS_m2 (i := 221) rfl rfl
theorem kn_X2_acceleration : (Cond.instanceMethod ({ cls := "HumpYard", name := "acceleration", desc := "(LHumpYard$Cut;)D" } : MethodName)) ∈ WS := WS_m2 (i := 223) rfl rfl
theorem kc_X2_acceleration : (Cond.code ({ cls := "HumpYard", name := "acceleration", desc := "(LHumpYard$Cut;)D" } : MethodName) prog_1_method_31_code (5 : Nat) (Option.some ClassFile.FieldType.double)) ∈ WS := WS_m2 (i := 224) rfl rfl
theorem kd_X2_247 : (Cond.constantDouble "HumpYard" (247 : Nat) (4621713564472705024 : UInt64)) ∈ WS := WS_m2 (i := 225) rfl rfl
theorem km_X2_249 : (Cond.methodLink "HumpYard" (249 : Nat) ({ cls := "HumpYard", name := "grade", desc := "(D)D" } : MethodName)) ∈ WS := WS_m2 (i := 226) rfl rfl
theorem ks_X2_grade : (Cond.static ({ cls := "HumpYard", name := "grade", desc := "(D)D" } : MethodName)) ∈ WS := WS_m2 (i := 227) rfl rfl
theorem kc_X2_grade : (Cond.code ({ cls := "HumpYard", name := "grade", desc := "(D)D" } : MethodName) prog_1_method_32_code (2 : Nat) (Option.some ClassFile.FieldType.double)) ∈ WS := WS_m2 (i := 228) rfl rfl
theorem kd_X2_264 : (Cond.constantDouble "HumpYard" (264 : Nat) (4633641066610819072 : UInt64)) ∈ WS := WS_m2 (i := 229) rfl rfl
theorem kd_X2_266 : (Cond.constantDouble "HumpYard" (266 : Nat) (4586916220476850176 : UInt64)) ∈ WS := WS_m2 (i := 230) rfl rfl
theorem kd_X2_268 : (Cond.constantDouble "HumpYard" (268 : Nat) (4641240890982006784 : UInt64)) ∈ WS := WS_m2 (i := 231) rfl rfl
theorem kd_X2_270 : (Cond.constantDouble "HumpYard" (270 : Nat) (4578359381184846234 : UInt64)) ∈ WS := WS_m2 (i := 232) rfl rfl
theorem kd_X2_272 : (Cond.constantDouble "HumpYard" (272 : Nat) (4562254508917369340 : UInt64)) ∈ WS := WS_m2 (i := 233) rfl rfl
theorem kd_X2_256 : (Cond.constantDouble "HumpYard" (256 : Nat) (4652218415073722368 : UInt64)) ∈ WS := WS_m2 (i := 234) rfl rfl
theorem kd_X2_258 : (Cond.constantDouble "HumpYard" (258 : Nat) (4598175219545276416 : UInt64)) ∈ WS := WS_m2 (i := 235) rfl rfl
theorem km_X2_260 : (Cond.methodLink "HumpYard" (260 : Nat) ({ cls := "HumpYard", name := "brakeSteps", desc := "(LHumpYard$Cut;II)I" } : MethodName)) ∈ WS := WS_m2 (i := 236) rfl rfl
theorem kn_X2_brakeSteps : (Cond.instanceMethod ({ cls := "HumpYard", name := "brakeSteps", desc := "(LHumpYard$Cut;II)I" } : MethodName)) ∈ WS := WS_m2 (i := 238) rfl rfl
theorem kc_X2_brakeSteps : (Cond.code ({ cls := "HumpYard", name := "brakeSteps", desc := "(LHumpYard$Cut;II)I" } : MethodName) prog_1_method_33_code (7 : Nat) (Option.some ClassFile.FieldType.int)) ∈ WS := WS_m2 (i := 239) rfl rfl
theorem kd_X2_274 : (Cond.constantDouble "HumpYard" (274 : Nat) (4620693217682128896 : UInt64)) ∈ WS := WS_m3 (i := 0) rfl rfl
theorem km_X2_276 : (Cond.methodLink "HumpYard" (276 : Nat) ({ cls := "java/lang/Math", name := "min", desc := "(II)I" } : MethodName)) ∈ WS := WS_m3 (i := 1) rfl rfl
theorem km_X2_177 : (Cond.methodLink "HumpYard" (177 : Nat) ({ cls := "HumpYard", name := "trackOf", desc := "(I)I" } : MethodName)) ∈ WS := WS_m3 (i := 2) rfl rfl
theorem ks_X2_trackOf : (Cond.static ({ cls := "HumpYard", name := "trackOf", desc := "(I)I" } : MethodName)) ∈ WS := WS_m3 (i := 3) rfl rfl
theorem kc_X2_trackOf : (Cond.code ({ cls := "HumpYard", name := "trackOf", desc := "(I)I" } : MethodName) prog_1_method_21_code (2 : Nat) (Option.some ClassFile.FieldType.int)) ∈ WS := WS_m3 (i := 4) rfl rfl
theorem kd_X2_241 : (Cond.constantDouble "HumpYard" (241 : Nat) (4593671619917905920 : UInt64)) ∈ WS := WS_m3 (i := 5) rfl rfl
theorem km_X2_243 : (Cond.methodLink "HumpYard" (243 : Nat) ({ cls := "HumpYard", name := "passPoints", desc := "(LHumpYard$Cut;D)V" } : MethodName)) ∈ WS := WS_m3 (i := 6) rfl rfl
theorem kn_X2_passPoints : (Cond.instanceMethod ({ cls := "HumpYard", name := "passPoints", desc := "(LHumpYard$Cut;D)V" } : MethodName)) ∈ WS := WS_m3 (i := 8) rfl rfl
theorem kc_X2_passPoints : (Cond.code ({ cls := "HumpYard", name := "passPoints", desc := "(LHumpYard$Cut;D)V" } : MethodName) prog_1_method_34_code (6 : Nat) (Option.none : Option ClassFile.FieldType)) ∈ WS := WS_m3 (i := 9) rfl rfl
theorem km_X2_281 : (Cond.methodLink "HumpYard" (281 : Nat) ({ cls := "HumpYard", name := "pass", desc := "(LHumpYard$Cut;I)V" } : MethodName)) ∈ WS := WS_m3 (i := 10) rfl rfl
theorem kn_X2_pass : (Cond.instanceMethod ({ cls := "HumpYard", name := "pass", desc := "(LHumpYard$Cut;I)V" } : MethodName)) ∈ WS := WS_m3 (i := 12) rfl rfl
theorem kc_X2_pass : (Cond.code ({ cls := "HumpYard", name := "pass", desc := "(LHumpYard$Cut;I)V" } : MethodName) prog_1_method_35_code (4 : Nat) (Option.none : Option ClassFile.FieldType)) ∈ WS := WS_m3 (i := 13) rfl rfl
theorem km_X2_288 : (Cond.methodLink "HumpYard" (288 : Nat) ({ cls := "HumpYard$EventLog", name := "note", desc := "(IIII)V" } : MethodName)) ∈ WS := WS_m3 (i := 14) rfl rfl
theorem kn_X1_note : (Cond.instanceMethod ({ cls := "HumpYard$EventLog", name := "note", desc := "(IIII)V" } : MethodName)) ∈ WS := WS_m3 (i := 15) rfl rfl
theorem kv_X1_note : (Cond.selects "HumpYard$EventLog" ({ cls := "HumpYard$EventLog", name := "note", desc := "(IIII)V" } : MethodName) ({ cls := "HumpYard$EventLog", name := "note", desc := "(IIII)V" } : MethodName)) ∈ WS := WS_m3 (i := 16) rfl rfl
theorem kc_X1_note : (Cond.code ({ cls := "HumpYard$EventLog", name := "note", desc := "(IIII)V" } : MethodName) prog_3_method_2_code (6 : Nat) (Option.none : Option ClassFile.FieldType)) ∈ WS := WS_m3 (i := 17) rfl rfl
theorem km_X1_19 : (Cond.methodLink "HumpYard$EventLog" (19 : Nat) ({ cls := "java/lang/Math", name := "floorMod", desc := "(II)I" } : MethodName)) ∈ WS := WS_m3 (i := 18) rfl rfl
theorem ks_J9_floorMod_7cf53 : (Cond.static ({ cls := "java/lang/Math", name := "floorMod", desc := "(II)I" } : MethodName)) ∈ WS := WS_m3 (i := 19) rfl rfl
theorem kc_J9_floorMod_7cf53 : (Cond.code ({ cls := "java/lang/Math", name := "floorMod", desc := "(II)I" } : MethodName) prog_12_method_50_code (3 : Nat) (Option.some ClassFile.FieldType.int)) ∈ WS := WS_m3 (i := 20) rfl rfl
theorem km_X2_292 : (Cond.methodLink "HumpYard" (292 : Nat) ({ cls := "HumpYard", name := "nodeBehind", desc := "(II)I" } : MethodName)) ∈ WS := WS_m3 (i := 21) rfl rfl
theorem km_X2_152 : (Cond.methodLink "HumpYard" (152 : Nat) ({ cls := "HumpYard", name := "catchAll", desc := "()V" } : MethodName)) ∈ WS := WS_m3 (i := 22) rfl rfl
theorem kn_X2_catchAll : (Cond.instanceMethod ({ cls := "HumpYard", name := "catchAll", desc := "()V" } : MethodName)) ∈ WS := WS_m3 (i := 24) rfl rfl
theorem kc_X2_catchAll : (Cond.code ({ cls := "HumpYard", name := "catchAll", desc := "()V" } : MethodName) prog_1_method_36_code (4 : Nat) (Option.none : Option ClassFile.FieldType)) ∈ WS := WS_m3 (i := 25) rfl rfl
theorem km_X2_295 : (Cond.methodLink "HumpYard" (295 : Nat) ({ cls := "HumpYard", name := "aheadOf", desc := "(ILHumpYard$Cut;)LHumpYard$Cut;" } : MethodName)) ∈ WS := WS_m3 (i := 26) rfl rfl
theorem kn_X2_aheadOf : (Cond.instanceMethod ({ cls := "HumpYard", name := "aheadOf", desc := "(ILHumpYard$Cut;)LHumpYard$Cut;" } : MethodName)) ∈ WS := WS_m3 (i := 28) rfl rfl
theorem kc_X2_aheadOf : (Cond.code ({ cls := "HumpYard", name := "aheadOf", desc := "(ILHumpYard$Cut;)LHumpYard$Cut;" } : MethodName) prog_1_method_37_code (5 : Nat) (Option.some (ClassFile.FieldType.object "HumpYard$Cut"))) ∈ WS := WS_m3 (i := 29) rfl rfl
theorem km_X2_299 : (Cond.methodLink "HumpYard" (299 : Nat) ({ cls := "HumpYard", name := "catchUp", desc := "(LHumpYard$Cut;LHumpYard$Cut;)V" } : MethodName)) ∈ WS := WS_m3 (i := 30) rfl rfl
theorem kn_X2_catchUp : (Cond.instanceMethod ({ cls := "HumpYard", name := "catchUp", desc := "(LHumpYard$Cut;LHumpYard$Cut;)V" } : MethodName)) ∈ WS := WS_m3 (i := 32) rfl rfl
theorem kc_X2_catchUp : (Cond.code ({ cls := "HumpYard", name := "catchUp", desc := "(LHumpYard$Cut;LHumpYard$Cut;)V" } : MethodName) prog_1_method_38_code (5 : Nat) (Option.none : Option ClassFile.FieldType)) ∈ WS := WS_m3 (i := 33) rfl rfl
theorem km_X2_155 : (Cond.methodLink "HumpYard" (155 : Nat) ({ cls := "HumpYard", name := "endAll", desc := "()V" } : MethodName)) ∈ WS := WS_m3 (i := 34) rfl rfl
theorem kn_X2_endAll : (Cond.instanceMethod ({ cls := "HumpYard", name := "endAll", desc := "()V" } : MethodName)) ∈ WS := WS_m3 (i := 36) rfl rfl
theorem kc_X2_endAll : (Cond.code ({ cls := "HumpYard", name := "endAll", desc := "()V" } : MethodName) prog_1_method_39_code (4 : Nat) (Option.none : Option ClassFile.FieldType)) ∈ WS := WS_m3 (i := 37) rfl rfl
theorem km_X2_306 : (Cond.methodLink "HumpYard" (306 : Nat) ({ cls := "HumpYard", name := "endOnTrack", desc := "(LHumpYard$Cut;I)V" } : MethodName)) ∈ WS := WS_m3 (i := 38) rfl rfl
theorem kn_X2_endOnTrack : (Cond.instanceMethod ({ cls := "HumpYard", name := "endOnTrack", desc := "(LHumpYard$Cut;I)V" } : MethodName)) ∈ WS := WS_m3 (i := 40) rfl rfl
theorem kc_X2_endOnTrack : (Cond.code ({ cls := "HumpYard", name := "endOnTrack", desc := "(LHumpYard$Cut;I)V" } : MethodName) prog_1_method_40_code (3 : Nat) (Option.none : Option ClassFile.FieldType)) ∈ WS := WS_m3 (i := 41) rfl rfl
theorem km_X2_312 : (Cond.methodLink "HumpYard" (312 : Nat) ({ cls := "HumpYard", name := "land", desc := "(LHumpYard$Cut;I)V" } : MethodName)) ∈ WS := WS_m3 (i := 42) rfl rfl
theorem kn_X2_land : (Cond.instanceMethod ({ cls := "HumpYard", name := "land", desc := "(LHumpYard$Cut;I)V" } : MethodName)) ∈ WS := WS_m3 (i := 44) rfl rfl
theorem kc_X2_land : (Cond.code ({ cls := "HumpYard", name := "land", desc := "(LHumpYard$Cut;I)V" } : MethodName) prog_1_method_41_code (5 : Nat) (Option.none : Option ClassFile.FieldType)) ∈ WS := WS_m3 (i := 45) rfl rfl
theorem km_X2_321 : (Cond.methodLink "HumpYard" (321 : Nat) ({ cls := "HumpYard", name := "enterSiding", desc := "(LHumpYard$Cut;I)V" } : MethodName)) ∈ WS := WS_m3 (i := 46) rfl rfl
theorem kn_X2_enterSiding : (Cond.instanceMethod ({ cls := "HumpYard", name := "enterSiding", desc := "(LHumpYard$Cut;I)V" } : MethodName)) ∈ WS := WS_m3 (i := 48) rfl rfl
theorem kc_X2_enterSiding : (Cond.code ({ cls := "HumpYard", name := "enterSiding", desc := "(LHumpYard$Cut;I)V" } : MethodName) prog_1_method_43_code (4 : Nat) (Option.none : Option ClassFile.FieldType)) ∈ WS := WS_m3 (i := 49) rfl rfl
theorem km_X2_315 : (Cond.methodLink "HumpYard" (315 : Nat) ({ cls := "HumpYard", name := "stand", desc := "(LHumpYard$Cut;I)V" } : MethodName)) ∈ WS := WS_m3 (i := 50) rfl rfl
theorem kn_X2_stand : (Cond.instanceMethod ({ cls := "HumpYard", name := "stand", desc := "(LHumpYard$Cut;I)V" } : MethodName)) ∈ WS := WS_m3 (i := 52) rfl rfl
theorem kc_X2_stand : (Cond.code ({ cls := "HumpYard", name := "stand", desc := "(LHumpYard$Cut;I)V" } : MethodName) prog_1_method_42_code (3 : Nat) (Option.none : Option ClassFile.FieldType)) ∈ WS := WS_m3 (i := 53) rfl rfl
theorem km_X2_309 : (Cond.methodLink "HumpYard" (309 : Nat) ({ cls := "java/util/ArrayList", name := "remove", desc := "(I)Ljava/lang/Object;" } : MethodName)) ∈ WS := WS_m3 (i := 54) rfl rfl
theorem kn_Jx4a65c_remove_915e3 : (Cond.instanceMethod ({ cls := "java/util/ArrayList", name := "remove", desc := "(I)Ljava/lang/Object;" } : MethodName)) ∈ WS := WS_m3 (i := 55) rfl rfl
theorem kv_Jx4a65c_remove_915e3 : (Cond.selects "java/util/ArrayList" ({ cls := "java/util/ArrayList", name := "remove", desc := "(I)Ljava/lang/Object;" } : MethodName) ({ cls := "java/util/ArrayList", name := "remove", desc := "(I)Ljava/lang/Object;" } : MethodName)) ∈ WS := WS_m3 (i := 56) rfl rfl
theorem kc_Jx4a65c_remove_915e3 : (Cond.code ({ cls := "java/util/ArrayList", name := "remove", desc := "(I)Ljava/lang/Object;" } : MethodName) prog_20_method_29_code (4 : Nat) (Option.some (ClassFile.FieldType.object "java/lang/Object"))) ∈ WS := WS_m3 (i := 57) rfl rfl
theorem km_Jx4a65c_144 : (Cond.methodLink "java/util/ArrayList" (144 : Nat) ({ cls := "java/util/ArrayList", name := "fastRemove", desc := "([Ljava/lang/Object;I)V" } : MethodName)) ∈ WS := WS_m3 (i := 58) rfl rfl
theorem kn_Jx4a65c_fastRemove_b59b0 : (Cond.instanceMethod ({ cls := "java/util/ArrayList", name := "fastRemove", desc := "([Ljava/lang/Object;I)V" } : MethodName)) ∈ WS := WS_m3 (i := 60) rfl rfl
theorem kc_Jx4a65c_fastRemove_b59b0 : (Cond.code ({ cls := "java/util/ArrayList", name := "fastRemove", desc := "([Ljava/lang/Object;I)V" } : MethodName) prog_20_method_39_code (4 : Nat) (Option.none : Option ClassFile.FieldType)) ∈ WS := WS_m3 (i := 61) rfl rfl
theorem km_Jx4a65c_112 : (Cond.methodLink "java/util/ArrayList" (112 : Nat) ({ cls := "java/lang/System", name := "arraycopy", desc := "(Ljava/lang/Object;ILjava/lang/Object;II)V" } : MethodName)) ∈ WS := WS_m3 (i := 62) rfl rfl
theorem km_X2_158 : (Cond.methodLink "HumpYard" (158 : Nat) ({ cls := "HumpYard", name := "pushNext", desc := "()V" } : MethodName)) ∈ WS := WS_m3 (i := 63) rfl rfl
theorem kn_X2_pushNext : (Cond.instanceMethod ({ cls := "HumpYard", name := "pushNext", desc := "()V" } : MethodName)) ∈ WS := WS_m3 (i := 65) rfl rfl
theorem kc_X2_pushNext : (Cond.code ({ cls := "HumpYard", name := "pushNext", desc := "()V" } : MethodName) prog_1_method_44_code (2 : Nat) (Option.none : Option ClassFile.FieldType)) ∈ WS := WS_m3 (i := 66) rfl rfl
theorem km_X2_324 : (Cond.methodLink "HumpYard" (324 : Nat) ({ cls := "HumpYard", name := "isCrestClear", desc := "()Z" } : MethodName)) ∈ WS := WS_m3 (i := 67) rfl rfl
theorem kn_X2_isCrestClear : (Cond.instanceMethod ({ cls := "HumpYard", name := "isCrestClear", desc := "()Z" } : MethodName)) ∈ WS := WS_m3 (i := 69) rfl rfl
theorem kc_X2_isCrestClear : (Cond.code ({ cls := "HumpYard", name := "isCrestClear", desc := "()Z" } : MethodName) prog_1_method_45_code (2 : Nat) (Option.some ClassFile.FieldType.boolean)) ∈ WS := WS_m3 (i := 70) rfl rfl
theorem km_L_96 : (Cond.methodLink "HumpYardLaw" (96 : Nat) ({ cls := "HumpYardLaw", name := "place", desc := "(LHumpYard;I[D)I" } : MethodName)) ∈ WS := WS_m3 (i := 71) rfl rfl
theorem ks_L_place : (Cond.static ({ cls := "HumpYardLaw", name := "place", desc := "(LHumpYard;I[D)I" } : MethodName)) ∈ WS := WS_m3 (i := 72) rfl rfl
theorem kc_L_place : (Cond.codeWith ({ cls := "HumpYardLaw", name := "place", desc := "(LHumpYard;I[D)I" } : MethodName) method_9_code (4 : Nat) (Option.some ClassFile.FieldType.int) [((0 : Nat), (8 : Nat), (11 : Nat), (25 : Nat))]) ∈ WS := WS_m3 (i := 73) rfl rfl
theorem km_L_38 : (Cond.methodLink "HumpYardLaw" (38 : Nat) ({ cls := "HumpYard", name := "place", desc := "(I)D" } : MethodName)) ∈ WS := WS_m3 (i := 74) rfl rfl
theorem kn_X2_place : (Cond.instanceMethod ({ cls := "HumpYard", name := "place", desc := "(I)D" } : MethodName)) ∈ WS := WS_m3 (i := 75) rfl rfl
theorem kv_X2_place : (Cond.selects "HumpYard" ({ cls := "HumpYard", name := "place", desc := "(I)D" } : MethodName) ({ cls := "HumpYard", name := "place", desc := "(I)D" } : MethodName)) ∈ WS := WS_m3 (i := 76) rfl rfl
theorem kc_X2_place : (Cond.code ({ cls := "HumpYard", name := "place", desc := "(I)D" } : MethodName) prog_1_method_8_code (2 : Nat) (Option.some ClassFile.FieldType.double)) ∈ WS := WS_m3 (i := 77) rfl rfl
theorem km_X2_161 : (Cond.methodLink "HumpYard" (161 : Nat) ({ cls := "HumpYard", name := "cutOf", desc := "(I)LHumpYard$Cut;" } : MethodName)) ∈ WS := WS_m3 (i := 78) rfl rfl
theorem kn_X2_cutOf : (Cond.instanceMethod ({ cls := "HumpYard", name := "cutOf", desc := "(I)LHumpYard$Cut;" } : MethodName)) ∈ WS := WS_m3 (i := 80) rfl rfl
theorem kc_X2_cutOf : (Cond.code ({ cls := "HumpYard", name := "cutOf", desc := "(I)LHumpYard$Cut;" } : MethodName) prog_1_method_16_code (2 : Nat) (Option.some (ClassFile.FieldType.object "HumpYard$Cut"))) ∈ WS := WS_m3 (i := 81) rfl rfl
theorem km_L_100 : (Cond.methodLink "HumpYardLaw" (100 : Nat) ({ cls := "HumpYardLaw", name := "speed", desc := "(LHumpYard;I[D)I" } : MethodName)) ∈ WS := WS_m3 (i := 83) rfl rfl
theorem ks_L_speed : (Cond.static ({ cls := "HumpYardLaw", name := "speed", desc := "(LHumpYard;I[D)I" } : MethodName)) ∈ WS := WS_m3 (i := 84) rfl rfl
theorem kc_L_speed : (Cond.codeWith ({ cls := "HumpYardLaw", name := "speed", desc := "(LHumpYard;I[D)I" } : MethodName) method_10_code (4 : Nat) (Option.some ClassFile.FieldType.int) [((0 : Nat), (8 : Nat), (11 : Nat), (25 : Nat))]) ∈ WS := WS_m3 (i := 85) rfl rfl
theorem km_L_42 : (Cond.methodLink "HumpYardLaw" (42 : Nat) ({ cls := "HumpYard", name := "speed", desc := "(I)D" } : MethodName)) ∈ WS := WS_m3 (i := 86) rfl rfl
theorem kn_X2_speed : (Cond.instanceMethod ({ cls := "HumpYard", name := "speed", desc := "(I)D" } : MethodName)) ∈ WS := WS_m3 (i := 87) rfl rfl
theorem kv_X2_speed : (Cond.selects "HumpYard" ({ cls := "HumpYard", name := "speed", desc := "(I)D" } : MethodName) ({ cls := "HumpYard", name := "speed", desc := "(I)D" } : MethodName)) ∈ WS := WS_m3 (i := 88) rfl rfl
theorem kc_X2_speed : (Cond.code ({ cls := "HumpYard", name := "speed", desc := "(I)D" } : MethodName) prog_1_method_9_code (2 : Nat) (Option.some ClassFile.FieldType.double)) ∈ WS := WS_m3 (i := 89) rfl rfl
theorem km_L_103 : (Cond.methodLink "HumpYardLaw" (103 : Nat) ({ cls := "HumpYardLaw", name := "told", desc := "(LHumpYard;II[J)I" } : MethodName)) ∈ WS := WS_m3 (i := 90) rfl rfl
theorem ks_L_told : (Cond.static ({ cls := "HumpYardLaw", name := "told", desc := "(LHumpYard;II[J)I" } : MethodName)) ∈ WS := WS_m3 (i := 91) rfl rfl
theorem kc_L_told : (Cond.codeWith ({ cls := "HumpYardLaw", name := "told", desc := "(LHumpYard;II[J)I" } : MethodName) method_11_code (5 : Nat) (Option.some ClassFile.FieldType.int) [((0 : Nat), (10 : Nat), (13 : Nat), (25 : Nat)), ((0 : Nat), (10 : Nat), (17 : Nat), (13 : Nat))]) ∈ WS := WS_m3 (i := 92) rfl rfl
theorem km_L_45 : (Cond.methodLink "HumpYardLaw" (45 : Nat) ({ cls := "HumpYard", name := "told", desc := "(II)I" } : MethodName)) ∈ WS := WS_m3 (i := 93) rfl rfl
theorem kn_X2_told : (Cond.instanceMethod ({ cls := "HumpYard", name := "told", desc := "(II)I" } : MethodName)) ∈ WS := WS_m3 (i := 94) rfl rfl
theorem kv_X2_told : (Cond.selects "HumpYard" ({ cls := "HumpYard", name := "told", desc := "(II)I" } : MethodName) ({ cls := "HumpYard", name := "told", desc := "(II)I" } : MethodName)) ∈ WS := WS_m3 (i := 95) rfl rfl
theorem kc_X2_told : (Cond.code ({ cls := "HumpYard", name := "told", desc := "(II)I" } : MethodName) prog_1_method_10_code (4 : Nat) (Option.some ClassFile.FieldType.int)) ∈ WS := WS_m3 (i := 96) rfl rfl
theorem km_L_107 : (Cond.methodLink "HumpYardLaw" (107 : Nat) ({ cls := "HumpYardLaw", name := "point", desc := "(LHumpYard;II[J)I" } : MethodName)) ∈ WS := WS_m3 (i := 98) rfl rfl
theorem ks_L_point : (Cond.static ({ cls := "HumpYardLaw", name := "point", desc := "(LHumpYard;II[J)I" } : MethodName)) ∈ WS := WS_m3 (i := 99) rfl rfl
theorem kc_L_point : (Cond.codeWith ({ cls := "HumpYardLaw", name := "point", desc := "(LHumpYard;II[J)I" } : MethodName) method_12_code (5 : Nat) (Option.some ClassFile.FieldType.int) [((0 : Nat), (10 : Nat), (13 : Nat), (25 : Nat)), ((0 : Nat), (10 : Nat), (17 : Nat), (13 : Nat))]) ∈ WS := WS_m3 (i := 100) rfl rfl
theorem km_L_49 : (Cond.methodLink "HumpYardLaw" (49 : Nat) ({ cls := "HumpYard", name := "point", desc := "(II)I" } : MethodName)) ∈ WS := WS_m3 (i := 101) rfl rfl
theorem kn_X2_point : (Cond.instanceMethod ({ cls := "HumpYard", name := "point", desc := "(II)I" } : MethodName)) ∈ WS := WS_m3 (i := 102) rfl rfl
theorem kv_X2_point : (Cond.selects "HumpYard" ({ cls := "HumpYard", name := "point", desc := "(II)I" } : MethodName) ({ cls := "HumpYard", name := "point", desc := "(II)I" } : MethodName)) ∈ WS := WS_m3 (i := 103) rfl rfl
theorem kc_X2_point : (Cond.code ({ cls := "HumpYard", name := "point", desc := "(II)I" } : MethodName) prog_1_method_11_code (3 : Nat) (Option.some ClassFile.FieldType.int)) ∈ WS := WS_m3 (i := 104) rfl rfl
theorem km_L_110 : (Cond.methodLink "HumpYardLaw" (110 : Nat) ({ cls := "HumpYardLaw", name := "siding", desc := "(LHumpYard;II[J)I" } : MethodName)) ∈ WS := WS_m3 (i := 106) rfl rfl
theorem ks_L_siding : (Cond.static ({ cls := "HumpYardLaw", name := "siding", desc := "(LHumpYard;II[J)I" } : MethodName)) ∈ WS := WS_m3 (i := 107) rfl rfl
theorem kc_L_siding : (Cond.codeWith ({ cls := "HumpYardLaw", name := "siding", desc := "(LHumpYard;II[J)I" } : MethodName) method_13_code (5 : Nat) (Option.some ClassFile.FieldType.int) [((0 : Nat), (10 : Nat), (13 : Nat), (25 : Nat))]) ∈ WS := WS_m3 (i := 108) rfl rfl
theorem km_L_52 : (Cond.methodLink "HumpYardLaw" (52 : Nat) ({ cls := "HumpYard", name := "siding", desc := "(II)I" } : MethodName)) ∈ WS := WS_m3 (i := 109) rfl rfl
theorem kn_X2_siding : (Cond.instanceMethod ({ cls := "HumpYard", name := "siding", desc := "(II)I" } : MethodName)) ∈ WS := WS_m3 (i := 110) rfl rfl
theorem kv_X2_siding : (Cond.selects "HumpYard" ({ cls := "HumpYard", name := "siding", desc := "(II)I" } : MethodName) ({ cls := "HumpYard", name := "siding", desc := "(II)I" } : MethodName)) ∈ WS := WS_m3 (i := 111) rfl rfl
theorem kc_X2_siding : (Cond.code ({ cls := "HumpYard", name := "siding", desc := "(II)I" } : MethodName) prog_1_method_12_code (4 : Nat) (Option.some ClassFile.FieldType.int)) ∈ WS := WS_m3 (i := 112) rfl rfl
theorem km_L_113 : (Cond.methodLink "HumpYardLaw" (113 : Nat) ({ cls := "HumpYardLaw", name := "event", desc := "(LHumpYard;II[J)I" } : MethodName)) ∈ WS := WS_m3 (i := 113) rfl rfl
theorem ks_L_event : (Cond.static ({ cls := "HumpYardLaw", name := "event", desc := "(LHumpYard;II[J)I" } : MethodName)) ∈ WS := WS_m3 (i := 114) rfl rfl
theorem kc_L_event : (Cond.codeWith ({ cls := "HumpYardLaw", name := "event", desc := "(LHumpYard;II[J)I" } : MethodName) method_14_code (5 : Nat) (Option.some ClassFile.FieldType.int) [((0 : Nat), (10 : Nat), (13 : Nat), (25 : Nat)), ((0 : Nat), (10 : Nat), (17 : Nat), (13 : Nat))]) ∈ WS := WS_m3 (i := 115) rfl rfl
theorem km_L_55 : (Cond.methodLink "HumpYardLaw" (55 : Nat) ({ cls := "HumpYard", name := "event", desc := "(II)I" } : MethodName)) ∈ WS := WS_m3 (i := 116) rfl rfl
theorem kn_X2_event : (Cond.instanceMethod ({ cls := "HumpYard", name := "event", desc := "(II)I" } : MethodName)) ∈ WS := WS_m3 (i := 117) rfl rfl
theorem kv_X2_event : (Cond.selects "HumpYard" ({ cls := "HumpYard", name := "event", desc := "(II)I" } : MethodName) ({ cls := "HumpYard", name := "event", desc := "(II)I" } : MethodName)) ∈ WS := WS_m3 (i := 118) rfl rfl
theorem kc_X2_event : (Cond.code ({ cls := "HumpYard", name := "event", desc := "(II)I" } : MethodName) prog_1_method_13_code (3 : Nat) (Option.some ClassFile.FieldType.int)) ∈ WS := WS_m3 (i := 119) rfl rfl
theorem km_X2_194 : (Cond.methodLink "HumpYard" (194 : Nat) ({ cls := "HumpYard$EventLog", name := "keeps", desc := "(I)Z" } : MethodName)) ∈ WS := WS_m3 (i := 120) rfl rfl
theorem kn_X1_keeps : (Cond.instanceMethod ({ cls := "HumpYard$EventLog", name := "keeps", desc := "(I)Z" } : MethodName)) ∈ WS := WS_m3 (i := 121) rfl rfl
theorem kv_X1_keeps : (Cond.selects "HumpYard$EventLog" ({ cls := "HumpYard$EventLog", name := "keeps", desc := "(I)Z" } : MethodName) ({ cls := "HumpYard$EventLog", name := "keeps", desc := "(I)Z" } : MethodName)) ∈ WS := WS_m3 (i := 122) rfl rfl
theorem kc_X1_keeps : (Cond.code ({ cls := "HumpYard$EventLog", name := "keeps", desc := "(I)Z" } : MethodName) prog_3_method_3_code (2 : Nat) (Option.some ClassFile.FieldType.boolean)) ∈ WS := WS_m3 (i := 123) rfl rfl
theorem km_X2_201 : (Cond.methodLink "HumpYard" (201 : Nat) ({ cls := "HumpYard$EventLog", name := "number", desc := "(II)I" } : MethodName)) ∈ WS := WS_m3 (i := 126) rfl rfl
theorem kn_X1_number : (Cond.instanceMethod ({ cls := "HumpYard$EventLog", name := "number", desc := "(II)I" } : MethodName)) ∈ WS := WS_m3 (i := 127) rfl rfl
theorem kv_X1_number : (Cond.selects "HumpYard$EventLog" ({ cls := "HumpYard$EventLog", name := "number", desc := "(II)I" } : MethodName) ({ cls := "HumpYard$EventLog", name := "number", desc := "(II)I" } : MethodName)) ∈ WS := WS_m3 (i := 128) rfl rfl
theorem kc_X1_number : (Cond.code ({ cls := "HumpYard$EventLog", name := "number", desc := "(II)I" } : MethodName) prog_3_method_4_code (3 : Nat) (Option.some ClassFile.FieldType.int)) ∈ WS := WS_m3 (i := 129) rfl rfl
theorem km_L_116 : (Cond.methodLink "HumpYardLaw" (116 : Nat) ({ cls := "HumpYardLaw", name := "about", desc := "(LHumpYard;I[J)I" } : MethodName)) ∈ WS := WS_m3 (i := 130) rfl rfl
theorem ks_L_about : (Cond.static ({ cls := "HumpYardLaw", name := "about", desc := "(LHumpYard;I[J)I" } : MethodName)) ∈ WS := WS_m3 (i := 131) rfl rfl
theorem kc_L_about : (Cond.codeWith ({ cls := "HumpYardLaw", name := "about", desc := "(LHumpYard;I[J)I" } : MethodName) method_15_code (4 : Nat) (Option.some ClassFile.FieldType.int) [((0 : Nat), (9 : Nat), (12 : Nat), (13 : Nat))]) ∈ WS := WS_m3 (i := 132) rfl rfl
theorem km_L_58 : (Cond.methodLink "HumpYardLaw" (58 : Nat) ({ cls := "HumpYard", name := "about", desc := "(I)I" } : MethodName)) ∈ WS := WS_m3 (i := 133) rfl rfl
theorem kn_X2_about : (Cond.instanceMethod ({ cls := "HumpYard", name := "about", desc := "(I)I" } : MethodName)) ∈ WS := WS_m3 (i := 134) rfl rfl
theorem kv_X2_about : (Cond.selects "HumpYard" ({ cls := "HumpYard", name := "about", desc := "(I)I" } : MethodName) ({ cls := "HumpYard", name := "about", desc := "(I)I" } : MethodName)) ∈ WS := WS_m3 (i := 135) rfl rfl
theorem kc_X2_about : (Cond.code ({ cls := "HumpYard", name := "about", desc := "(I)I" } : MethodName) prog_1_method_14_code (2 : Nat) (Option.some ClassFile.FieldType.int)) ∈ WS := WS_m3 (i := 136) rfl rfl
theorem kl_L_62 : (Cond.classLink "HumpYardLaw" (62 : Nat) "HumpYardModel") ∈ WS := WS_m3 (i := 138) rfl rfl
theorem kt_X3 : (Cond.instantiable "HumpYardModel" (24 : Nat)) ∈ WS := WS_m3 (i := 139) rfl rfl
theorem km_L_64 : (Cond.methodLink "HumpYardLaw" (64 : Nat) ({ cls := "HumpYardModel", name := "<init>", desc := "()V" } : MethodName)) ∈ WS := WS_m3 (i := 140) rfl rfl
theorem kn_X3_init : (Cond.instanceMethod ({ cls := "HumpYardModel", name := "<init>", desc := "()V" } : MethodName)) ∈ WS := WS_m3 (i := 141) rfl rfl
theorem kc_X3_init : (Cond.code ({ cls := "HumpYardModel", name := "<init>", desc := "()V" } : MethodName) prog_5_method_1_code (2 : Nat) (Option.none : Option ClassFile.FieldType)) ∈ WS := WS_m3 (i := 142) rfl rfl
theorem km_X3_1 : (Cond.methodLink "HumpYardModel" (1 : Nat) ({ cls := "java/lang/Object", name := "<init>", desc := "()V" } : MethodName)) ∈ WS := WS_m3 (i := 143) rfl rfl
theorem kd_X3_66 : (Cond.constantDouble "HumpYardModel" (66 : Nat) (4611686018427387904 : UInt64)) ∈ WS := WS_m3 (i := 144) rfl rfl
theorem kd_X3_68 : (Cond.constantDouble "HumpYardModel" (68 : Nat) (4645744490609377280 : UInt64)) ∈ WS := WS_m3 (i := 145) rfl rfl
theorem kf_X3_70 : (Cond.fieldLink "HumpYardModel" (70 : Nat) "HumpYardModel" "code" "I") ∈ WS := WS_m3 (i := 146) rfl rfl
theorem kf_X3_80 : (Cond.fieldLink "HumpYardModel" (80 : Nat) "HumpYardModel" "cuts" "I") ∈ WS := WS_m3 (i := 147) rfl rfl
theorem kf_X3_7 : (Cond.fieldLink "HumpYardModel" (7 : Nat) "HumpYardModel" "state" "[I") ∈ WS := WS_m3 (i := 148) rfl rfl
theorem kf_X3_13 : (Cond.fieldLink "HumpYardModel" (13 : Nat) "HumpYardModel" "wagons" "[I") ∈ WS := WS_m3 (i := 149) rfl rfl
theorem kf_X3_16 : (Cond.fieldLink "HumpYardModel" (16 : Nat) "HumpYardModel" "tons" "[I") ∈ WS := WS_m3 (i := 150) rfl rfl
theorem kf_X3_19 : (Cond.fieldLink "HumpYardModel" (19 : Nat) "HumpYardModel" "resistance" "[D") ∈ WS := WS_m3 (i := 151) rfl rfl
theorem kf_X3_23 : (Cond.fieldLink "HumpYardModel" (23 : Nat) "HumpYardModel" "wished" "[I") ∈ WS := WS_m3 (i := 152) rfl rfl
theorem kf_X3_26 : (Cond.fieldLink "HumpYardModel" (26 : Nat) "HumpYardModel" "place" "[D") ∈ WS := WS_m3 (i := 153) rfl rfl
theorem kf_X3_29 : (Cond.fieldLink "HumpYardModel" (29 : Nat) "HumpYardModel" "speed" "[D") ∈ WS := WS_m3 (i := 154) rfl rfl
theorem kf_X3_32 : (Cond.fieldLink "HumpYardModel" (32 : Nat) "HumpYardModel" "passed" "[I") ∈ WS := WS_m3 (i := 155) rfl rfl
theorem kf_X3_35 : (Cond.fieldLink "HumpYardModel" (35 : Nat) "HumpYardModel" "sides" "[I") ∈ WS := WS_m3 (i := 156) rfl rfl
theorem kf_X3_38 : (Cond.fieldLink "HumpYardModel" (38 : Nat) "HumpYardModel" "caught" "[I") ∈ WS := WS_m3 (i := 157) rfl rfl
theorem kf_X3_89 : (Cond.fieldLink "HumpYardModel" (89 : Nat) "HumpYardModel" "push" "D") ∈ WS := WS_m3 (i := 158) rfl rfl
theorem kf_X3_41 : (Cond.fieldLink "HumpYardModel" (41 : Nat) "HumpYardModel" "wishes" "[D") ∈ WS := WS_m3 (i := 159) rfl rfl
theorem kf_X3_44 : (Cond.fieldLink "HumpYardModel" (44 : Nat) "HumpYardModel" "free" "[D") ∈ WS := WS_m3 (i := 160) rfl rfl
theorem kf_X3_47 : (Cond.fieldLink "HumpYardModel" (47 : Nat) "HumpYardModel" "lies" "[I") ∈ WS := WS_m3 (i := 161) rfl rfl
theorem kf_X3_50 : (Cond.fieldLink "HumpYardModel" (50 : Nat) "HumpYardModel" "turns" "[I") ∈ WS := WS_m3 (i := 162) rfl rfl
theorem kf_X3_53 : (Cond.fieldLink "HumpYardModel" (53 : Nat) "HumpYardModel" "stuck" "[Z") ∈ WS := WS_m3 (i := 163) rfl rfl
theorem kf_X3_57 : (Cond.fieldLink "HumpYardModel" (57 : Nat) "HumpYardModel" "sidings" "[I") ∈ WS := WS_m3 (i := 164) rfl rfl
theorem kf_X3_60 : (Cond.fieldLink "HumpYardModel" (60 : Nat) "HumpYardModel" "sided" "[I") ∈ WS := WS_m3 (i := 165) rfl rfl
theorem kf_X3_63 : (Cond.fieldLink "HumpYardModel" (63 : Nat) "HumpYardModel" "events" "[I") ∈ WS := WS_m3 (i := 166) rfl rfl
theorem kf_X3_128 : (Cond.fieldLink "HumpYardModel" (128 : Nat) "HumpYardModel" "eventCount" "I") ∈ WS := WS_m3 (i := 167) rfl rfl
theorem kf_X3_131 : (Cond.fieldLink "HumpYardModel" (131 : Nat) "HumpYardModel" "ticks" "I") ∈ WS := WS_m3 (i := 168) rfl rfl
theorem kf_X3_179 : (Cond.fieldLink "HumpYardModel" (179 : Nat) "HumpYardModel" "fastest" "D") ∈ WS := WS_m3 (i := 169) rfl rfl
theorem km_L_73 : (Cond.methodLink "HumpYardLaw" (73 : Nat) ({ cls := "HumpYardModel", name := "thrown", desc := "()I" } : MethodName)) ∈ WS := WS_m3 (i := 219) rfl rfl
theorem kn_X3_thrown : (Cond.instanceMethod ({ cls := "HumpYardModel", name := "thrown", desc := "()I" } : MethodName)) ∈ WS := WS_m3 (i := 220) rfl rfl
theorem kv_X3_thrown : (Cond.selects "HumpYardModel" ({ cls := "HumpYardModel", name := "thrown", desc := "()I" } : MethodName) ({ cls := "HumpYardModel", name := "thrown", desc := "()I" } : MethodName)) ∈ WS := WS_m3 (i := 221) rfl rfl
theorem kc_X3_thrown : (Cond.code ({ cls := "HumpYardModel", name := "thrown", desc := "()I" } : MethodName) prog_5_method_2_code (1 : Nat) (Option.some ClassFile.FieldType.int)) ∈ WS := WS_m3 (i := 222) rfl rfl
theorem km_L_72 : (Cond.methodLink "HumpYardLaw" (72 : Nat) ({ cls := "HumpYardModel", name := "cut", desc := "(IIDI)I" } : MethodName)) ∈ WS := WS_m3 (i := 223) rfl rfl
theorem kn_X3_cut : (Cond.instanceMethod ({ cls := "HumpYardModel", name := "cut", desc := "(IIDI)I" } : MethodName)) ∈ WS := WS_m3 (i := 224) rfl rfl
theorem kv_X3_cut : (Cond.selects "HumpYardModel" ({ cls := "HumpYardModel", name := "cut", desc := "(IIDI)I" } : MethodName) ({ cls := "HumpYardModel", name := "cut", desc := "(IIDI)I" } : MethodName)) ∈ WS := WS_m3 (i := 225) rfl rfl
theorem kc_X3_cut : (Cond.code ({ cls := "HumpYardModel", name := "cut", desc := "(IIDI)I" } : MethodName) prog_5_method_5_code (7 : Nat) (Option.some ClassFile.FieldType.int)) ∈ WS := WS_m3 (i := 226) rfl rfl
theorem kd_X3_74 : (Cond.constantDouble "HumpYardModel" (74 : Nat) (4625196817309499392 : UInt64)) ∈ WS := WS_m3 (i := 227) rfl rfl
theorem km_X3_76 : (Cond.methodLink "HumpYardModel" (76 : Nat) ({ cls := "HumpYardModel", name := "isIn", desc := "(DDD)Z" } : MethodName)) ∈ WS := WS_m3 (i := 228) rfl rfl
theorem ks_X3_isIn : (Cond.static ({ cls := "HumpYardModel", name := "isIn", desc := "(DDD)Z" } : MethodName)) ∈ WS := WS_m3 (i := 229) rfl rfl
theorem kc_X3_isIn : (Cond.code ({ cls := "HumpYardModel", name := "isIn", desc := "(DDD)Z" } : MethodName) prog_5_method_4_code (6 : Nat) (Option.some ClassFile.FieldType.boolean)) ∈ WS := WS_m3 (i := 230) rfl rfl
theorem km_X3_83 : (Cond.methodLink "HumpYardModel" (83 : Nat) ({ cls := "HumpYardModel", name := "refuses", desc := "(I)Z" } : MethodName)) ∈ WS := WS_m3 (i := 231) rfl rfl
theorem kn_X3_refuses : (Cond.instanceMethod ({ cls := "HumpYardModel", name := "refuses", desc := "(I)Z" } : MethodName)) ∈ WS := WS_m3 (i := 233) rfl rfl
theorem kc_X3_refuses : (Cond.code ({ cls := "HumpYardModel", name := "refuses", desc := "(I)Z" } : MethodName) prog_5_method_3_code (2 : Nat) (Option.some ClassFile.FieldType.boolean)) ∈ WS := WS_m3 (i := 234) rfl rfl
theorem km_L_80 : (Cond.methodLink "HumpYardLaw" (80 : Nat) ({ cls := "HumpYardModel", name := "push", desc := "(D)D" } : MethodName)) ∈ WS := WS_m3 (i := 235) rfl rfl
theorem kn_X3_push : (Cond.instanceMethod ({ cls := "HumpYardModel", name := "push", desc := "(D)D" } : MethodName)) ∈ WS := WS_m3 (i := 236) rfl rfl
theorem kv_X3_push : (Cond.selects "HumpYardModel" ({ cls := "HumpYardModel", name := "push", desc := "(D)D" } : MethodName) ({ cls := "HumpYardModel", name := "push", desc := "(D)D" } : MethodName)) ∈ WS := WS_m3 (i := 237) rfl rfl
theorem kc_X3_push : (Cond.code ({ cls := "HumpYardModel", name := "push", desc := "(D)D" } : MethodName) prog_5_method_6_code (5 : Nat) (Option.some ClassFile.FieldType.double)) ∈ WS := WS_m3 (i := 238) rfl rfl
theorem kd_X3_87 : (Cond.constantDouble "HumpYardModel" (87 : Nat) (4616189618054758400 : UInt64)) ∈ WS := WS_m3 (i := 239) rfl rfl
theorem km_L_84 : (Cond.methodLink "HumpYardLaw" (84 : Nat) ({ cls := "HumpYardModel", name := "wish", desc := "(ID)D" } : MethodName)) ∈ WS := WS_m4 (i := 0) rfl rfl
theorem kn_X3_wish : (Cond.instanceMethod ({ cls := "HumpYardModel", name := "wish", desc := "(ID)D" } : MethodName)) ∈ WS := WS_m4 (i := 1) rfl rfl
theorem kv_X3_wish : (Cond.selects "HumpYardModel" ({ cls := "HumpYardModel", name := "wish", desc := "(ID)D" } : MethodName) ({ cls := "HumpYardModel", name := "wish", desc := "(ID)D" } : MethodName)) ∈ WS := WS_m4 (i := 2) rfl rfl
theorem kc_X3_wish : (Cond.code ({ cls := "HumpYardModel", name := "wish", desc := "(ID)D" } : MethodName) prog_5_method_7_code (6 : Nat) (Option.some ClassFile.FieldType.double)) ∈ WS := WS_m4 (i := 3) rfl rfl
theorem kd_X3_93 : (Cond.constantDouble "HumpYardModel" (93 : Nat) (4626322717216342016 : UInt64)) ∈ WS := WS_m4 (i := 4) rfl rfl
theorem km_L_88 : (Cond.methodLink "HumpYardLaw" (88 : Nat) ({ cls := "HumpYardModel", name := "stick", desc := "(IZ)Z" } : MethodName)) ∈ WS := WS_m4 (i := 5) rfl rfl
theorem kn_X3_stick : (Cond.instanceMethod ({ cls := "HumpYardModel", name := "stick", desc := "(IZ)Z" } : MethodName)) ∈ WS := WS_m4 (i := 6) rfl rfl
theorem kv_X3_stick : (Cond.selects "HumpYardModel" ({ cls := "HumpYardModel", name := "stick", desc := "(IZ)Z" } : MethodName) ({ cls := "HumpYardModel", name := "stick", desc := "(IZ)Z" } : MethodName)) ∈ WS := WS_m4 (i := 7) rfl rfl
theorem kc_X3_stick : (Cond.code ({ cls := "HumpYardModel", name := "stick", desc := "(IZ)Z" } : MethodName) prog_5_method_8_code (4 : Nat) (Option.some ClassFile.FieldType.boolean)) ∈ WS := WS_m4 (i := 8) rfl rfl
theorem km_L_91 : (Cond.methodLink "HumpYardLaw" (91 : Nat) ({ cls := "HumpYardModel", name := "fill", desc := "(ID)D" } : MethodName)) ∈ WS := WS_m4 (i := 9) rfl rfl
theorem kn_X3_fill : (Cond.instanceMethod ({ cls := "HumpYardModel", name := "fill", desc := "(ID)D" } : MethodName)) ∈ WS := WS_m4 (i := 10) rfl rfl
theorem kv_X3_fill : (Cond.selects "HumpYardModel" ({ cls := "HumpYardModel", name := "fill", desc := "(ID)D" } : MethodName) ({ cls := "HumpYardModel", name := "fill", desc := "(ID)D" } : MethodName)) ∈ WS := WS_m4 (i := 11) rfl rfl
theorem kc_X3_fill : (Cond.code ({ cls := "HumpYardModel", name := "fill", desc := "(ID)D" } : MethodName) prog_5_method_9_code (6 : Nat) (Option.some ClassFile.FieldType.double)) ∈ WS := WS_m4 (i := 12) rfl rfl
theorem kd_X3_95 : (Cond.constantDouble "HumpYardModel" (95 : Nat) (4650248090236747776 : UInt64)) ∈ WS := WS_m4 (i := 13) rfl rfl
theorem km_L_95 : (Cond.methodLink "HumpYardLaw" (95 : Nat) ({ cls := "HumpYardModel", name := "tick", desc := "(I)I" } : MethodName)) ∈ WS := WS_m4 (i := 14) rfl rfl
theorem kn_X3_tick : (Cond.instanceMethod ({ cls := "HumpYardModel", name := "tick", desc := "(I)I" } : MethodName)) ∈ WS := WS_m4 (i := 15) rfl rfl
theorem kv_X3_tick : (Cond.selects "HumpYardModel" ({ cls := "HumpYardModel", name := "tick", desc := "(I)I" } : MethodName) ({ cls := "HumpYardModel", name := "tick", desc := "(I)I" } : MethodName)) ∈ WS := WS_m4 (i := 16) rfl rfl
theorem kc_X3_tick : (Cond.code ({ cls := "HumpYardModel", name := "tick", desc := "(I)I" } : MethodName) prog_5_method_26_code (5 : Nat) (Option.some ClassFile.FieldType.int)) ∈ WS := WS_m4 (i := 17) rfl rfl
theorem km_X3_182 : (Cond.methodLink "HumpYardModel" (182 : Nat) ({ cls := "HumpYardModel", name := "points", desc := "()V" } : MethodName)) ∈ WS := WS_m4 (i := 18) rfl rfl
theorem kn_X3_points : (Cond.instanceMethod ({ cls := "HumpYardModel", name := "points", desc := "()V" } : MethodName)) ∈ WS := WS_m4 (i := 20) rfl rfl
theorem kc_X3_points : (Cond.code ({ cls := "HumpYardModel", name := "points", desc := "()V" } : MethodName) prog_5_method_19_code (3 : Nat) (Option.none : Option ClassFile.FieldType)) ∈ WS := WS_m4 (i := 21) rfl rfl
theorem km_X3_134 : (Cond.methodLink "HumpYardModel" (134 : Nat) ({ cls := "HumpYardModel", name := "isBusy", desc := "(I)Z" } : MethodName)) ∈ WS := WS_m4 (i := 22) rfl rfl
theorem kn_X3_isBusy : (Cond.instanceMethod ({ cls := "HumpYardModel", name := "isBusy", desc := "(I)Z" } : MethodName)) ∈ WS := WS_m4 (i := 24) rfl rfl
theorem kc_X3_isBusy : (Cond.code ({ cls := "HumpYardModel", name := "isBusy", desc := "(I)Z" } : MethodName) prog_5_method_15_code (3 : Nat) (Option.some ClassFile.FieldType.boolean)) ∈ WS := WS_m4 (i := 25) rfl rfl
theorem km_X3_110 : (Cond.methodLink "HumpYardModel" (110 : Nat) ({ cls := "HumpYardModel", name := "goesBy", desc := "(II)Z" } : MethodName)) ∈ WS := WS_m4 (i := 26) rfl rfl
theorem kn_X3_goesBy : (Cond.instanceMethod ({ cls := "HumpYardModel", name := "goesBy", desc := "(II)Z" } : MethodName)) ∈ WS := WS_m4 (i := 28) rfl rfl
theorem kc_X3_goesBy : (Cond.code ({ cls := "HumpYardModel", name := "goesBy", desc := "(II)Z" } : MethodName) prog_5_method_13_code (4 : Nat) (Option.some ClassFile.FieldType.boolean)) ∈ WS := WS_m4 (i := 29) rfl rfl
theorem km_X3_101 : (Cond.methodLink "HumpYardModel" (101 : Nat) ({ cls := "HumpYardModel", name := "level", desc := "(I)I" } : MethodName)) ∈ WS := WS_m4 (i := 30) rfl rfl
theorem ks_X3_level : (Cond.static ({ cls := "HumpYardModel", name := "level", desc := "(I)I" } : MethodName)) ∈ WS := WS_m4 (i := 31) rfl rfl
theorem kc_X3_level : (Cond.code ({ cls := "HumpYardModel", name := "level", desc := "(I)I" } : MethodName) prog_5_method_10_code (1 : Nat) (Option.some ClassFile.FieldType.int)) ∈ WS := WS_m4 (i := 32) rfl rfl
theorem km_X3_105 : (Cond.methodLink "HumpYardModel" (105 : Nat) ({ cls := "HumpYardModel", name := "wayTo", desc := "(I)I" } : MethodName)) ∈ WS := WS_m4 (i := 33) rfl rfl
theorem ks_X3_wayTo : (Cond.static ({ cls := "HumpYardModel", name := "wayTo", desc := "(I)I" } : MethodName)) ∈ WS := WS_m4 (i := 34) rfl rfl
theorem kc_X3_wayTo : (Cond.code ({ cls := "HumpYardModel", name := "wayTo", desc := "(I)I" } : MethodName) prog_5_method_12_code (1 : Nat) (Option.some ClassFile.FieldType.int)) ∈ WS := WS_m4 (i := 35) rfl rfl
theorem km_X3_114 : (Cond.methodLink "HumpYardModel" (114 : Nat) ({ cls := "HumpYardModel", name := "placeOf", desc := "(I)D" } : MethodName)) ∈ WS := WS_m4 (i := 36) rfl rfl
theorem ks_X3_placeOf : (Cond.static ({ cls := "HumpYardModel", name := "placeOf", desc := "(I)D" } : MethodName)) ∈ WS := WS_m4 (i := 37) rfl rfl
theorem kc_X3_placeOf : (Cond.code ({ cls := "HumpYardModel", name := "placeOf", desc := "(I)D" } : MethodName) prog_5_method_11_code (1 : Nat) (Option.some ClassFile.FieldType.double)) ∈ WS := WS_m4 (i := 38) rfl rfl
theorem kd_X3_97 : (Cond.constantDouble "HumpYardModel" (97 : Nat) (4635329916471083008 : UInt64)) ∈ WS := WS_m4 (i := 39) rfl rfl
theorem kd_X3_99 : (Cond.constantDouble "HumpYardModel" (99 : Nat) (4630826316843712512 : UInt64)) ∈ WS := WS_m4 (i := 40) rfl rfl
theorem kd_X3_118 : (Cond.constantDouble "HumpYardModel" (118 : Nat) (4624633867356078080 : UInt64)) ∈ WS := WS_m4 (i := 41) rfl rfl
theorem km_X3_120 : (Cond.methodLink "HumpYardModel" (120 : Nat) ({ cls := "HumpYardModel", name := "rear", desc := "(I)D" } : MethodName)) ∈ WS := WS_m4 (i := 42) rfl rfl
theorem kn_X3_rear : (Cond.instanceMethod ({ cls := "HumpYardModel", name := "rear", desc := "(I)D" } : MethodName)) ∈ WS := WS_m4 (i := 44) rfl rfl
theorem kc_X3_rear : (Cond.code ({ cls := "HumpYardModel", name := "rear", desc := "(I)D" } : MethodName) prog_5_method_14_code (2 : Nat) (Option.some ClassFile.FieldType.double)) ∈ WS := WS_m4 (i := 45) rfl rfl
theorem kd_X3_108 : (Cond.constantDouble "HumpYardModel" (108 : Nat) (4623226492472524800 : UInt64)) ∈ WS := WS_m4 (i := 46) rfl rfl
theorem kd_X3_123 : (Cond.constantDouble "HumpYardModel" (123 : Nat) (4612811918334230528 : UInt64)) ∈ WS := WS_m4 (i := 47) rfl rfl
theorem km_X3_137 : (Cond.methodLink "HumpYardModel" (137 : Nat) ({ cls := "HumpYardModel", name := "bound", desc := "(I)I" } : MethodName)) ∈ WS := WS_m4 (i := 48) rfl rfl
theorem kn_X3_bound : (Cond.instanceMethod ({ cls := "HumpYardModel", name := "bound", desc := "(I)I" } : MethodName)) ∈ WS := WS_m4 (i := 50) rfl rfl
theorem kc_X3_bound : (Cond.code ({ cls := "HumpYardModel", name := "bound", desc := "(I)I" } : MethodName) prog_5_method_17_code (4 : Nat) (Option.some ClassFile.FieldType.int)) ∈ WS := WS_m4 (i := 51) rfl rfl
theorem km_X3_125 : (Cond.methodLink "HumpYardModel" (125 : Nat) ({ cls := "HumpYardModel", name := "leads", desc := "(II)Z" } : MethodName)) ∈ WS := WS_m4 (i := 52) rfl rfl
theorem ks_X3_leads : (Cond.static ({ cls := "HumpYardModel", name := "leads", desc := "(II)Z" } : MethodName)) ∈ WS := WS_m4 (i := 53) rfl rfl
theorem kc_X3_leads : (Cond.code ({ cls := "HumpYardModel", name := "leads", desc := "(II)Z" } : MethodName) prog_5_method_16_code (2 : Nat) (Option.some ClassFile.FieldType.boolean)) ∈ WS := WS_m4 (i := 54) rfl rfl
theorem km_X3_185 : (Cond.methodLink "HumpYardModel" (185 : Nat) ({ cls := "HumpYardModel", name := "rolls", desc := "(I)V" } : MethodName)) ∈ WS := WS_m4 (i := 55) rfl rfl
theorem kn_X3_rolls : (Cond.instanceMethod ({ cls := "HumpYardModel", name := "rolls", desc := "(I)V" } : MethodName)) ∈ WS := WS_m4 (i := 57) rfl rfl
theorem kc_X3_rolls : (Cond.code ({ cls := "HumpYardModel", name := "rolls", desc := "(I)V" } : MethodName) prog_5_method_21_code (11 : Nat) (Option.none : Option ClassFile.FieldType)) ∈ WS := WS_m4 (i := 58) rfl rfl
theorem kd_X3_152 : (Cond.constantDouble "HumpYardModel" (152 : Nat) (4633641066610819072 : UInt64)) ∈ WS := WS_m4 (i := 59) rfl rfl
theorem kd_X3_154 : (Cond.constantDouble "HumpYardModel" (154 : Nat) (4586916220476850176 : UInt64)) ∈ WS := WS_m4 (i := 60) rfl rfl
theorem kd_X3_156 : (Cond.constantDouble "HumpYardModel" (156 : Nat) (4641240890982006784 : UInt64)) ∈ WS := WS_m4 (i := 61) rfl rfl
theorem kd_X3_158 : (Cond.constantDouble "HumpYardModel" (158 : Nat) (4578359381184846234 : UInt64)) ∈ WS := WS_m4 (i := 62) rfl rfl
theorem kd_X3_160 : (Cond.constantDouble "HumpYardModel" (160 : Nat) (4562254508917369340 : UInt64)) ∈ WS := WS_m4 (i := 63) rfl rfl
theorem kd_X3_162 : (Cond.constantDouble "HumpYardModel" (162 : Nat) (4621713564472705024 : UInt64)) ∈ WS := WS_m4 (i := 64) rfl rfl
theorem kd_X3_164 : (Cond.constantDouble "HumpYardModel" (164 : Nat) (4652218415073722368 : UInt64)) ∈ WS := WS_m4 (i := 65) rfl rfl
theorem km_X3_166 : (Cond.methodLink "HumpYardModel" (166 : Nat) ({ cls := "HumpYardModel", name := "brakes", desc := "(II)D" } : MethodName)) ∈ WS := WS_m4 (i := 66) rfl rfl
theorem kn_X3_brakes : (Cond.instanceMethod ({ cls := "HumpYardModel", name := "brakes", desc := "(II)D" } : MethodName)) ∈ WS := WS_m4 (i := 68) rfl rfl
theorem kc_X3_brakes : (Cond.code ({ cls := "HumpYardModel", name := "brakes", desc := "(II)D" } : MethodName) prog_5_method_20_code (8 : Nat) (Option.some ClassFile.FieldType.double)) ∈ WS := WS_m4 (i := 69) rfl rfl
theorem kd_X3_140 : (Cond.constantDouble "HumpYardModel" (140 : Nat) (4629137466983448576 : UInt64)) ∈ WS := WS_m4 (i := 70) rfl rfl
theorem kd_X3_142 : (Cond.constantDouble "HumpYardModel" (142 : Nat) (4641592734702895104 : UInt64)) ∈ WS := WS_m4 (i := 71) rfl rfl
theorem kd_X3_144 : (Cond.constantDouble "HumpYardModel" (144 : Nat) (4632233691727265792 : UInt64)) ∈ WS := WS_m4 (i := 72) rfl rfl
theorem kd_X3_146 : (Cond.constantDouble "HumpYardModel" (146 : Nat) (4642296422144671744 : UInt64)) ∈ WS := WS_m4 (i := 73) rfl rfl
theorem kd_X3_148 : (Cond.constantDouble "HumpYardModel" (148 : Nat) (4620693217682128896 : UInt64)) ∈ WS := WS_m4 (i := 74) rfl rfl
theorem kd_X3_150 : (Cond.constantDouble "HumpYardModel" (150 : Nat) (4598175219545276416 : UInt64)) ∈ WS := WS_m4 (i := 75) rfl rfl
theorem kd_X3_170 : (Cond.constantDouble "HumpYardModel" (170 : Nat) (4593671619917905920 : UInt64)) ∈ WS := WS_m4 (i := 76) rfl rfl
theorem km_X3_172 : (Cond.methodLink "HumpYardModel" (172 : Nat) ({ cls := "HumpYardModel", name := "notes", desc := "(III)V" } : MethodName)) ∈ WS := WS_m4 (i := 77) rfl rfl
theorem kn_X3_notes : (Cond.instanceMethod ({ cls := "HumpYardModel", name := "notes", desc := "(III)V" } : MethodName)) ∈ WS := WS_m4 (i := 79) rfl rfl
theorem kc_X3_notes : (Cond.code ({ cls := "HumpYardModel", name := "notes", desc := "(III)V" } : MethodName) prog_5_method_18_code (5 : Nat) (Option.none : Option ClassFile.FieldType)) ∈ WS := WS_m4 (i := 80) rfl rfl
theorem km_X3_189 : (Cond.methodLink "HumpYardModel" (189 : Nat) ({ cls := "HumpYardModel", name := "catches", desc := "(I)V" } : MethodName)) ∈ WS := WS_m4 (i := 81) rfl rfl
theorem kn_X3_catches : (Cond.instanceMethod ({ cls := "HumpYardModel", name := "catches", desc := "(I)V" } : MethodName)) ∈ WS := WS_m4 (i := 83) rfl rfl
theorem kc_X3_catches : (Cond.code ({ cls := "HumpYardModel", name := "catches", desc := "(I)V" } : MethodName) prog_5_method_23_code (9 : Nat) (Option.none : Option ClassFile.FieldType)) ∈ WS := WS_m4 (i := 84) rfl rfl
theorem km_X3_176 : (Cond.methodLink "HumpYardModel" (176 : Nat) ({ cls := "HumpYardModel", name := "ahead", desc := "(I)I" } : MethodName)) ∈ WS := WS_m4 (i := 85) rfl rfl
theorem kn_X3_ahead : (Cond.instanceMethod ({ cls := "HumpYardModel", name := "ahead", desc := "(I)I" } : MethodName)) ∈ WS := WS_m4 (i := 87) rfl rfl
theorem kc_X3_ahead : (Cond.code ({ cls := "HumpYardModel", name := "ahead", desc := "(I)I" } : MethodName) prog_5_method_22_code (4 : Nat) (Option.some ClassFile.FieldType.int)) ∈ WS := WS_m4 (i := 88) rfl rfl
theorem km_X3_192 : (Cond.methodLink "HumpYardModel" (192 : Nat) ({ cls := "HumpYardModel", name := "ends", desc := "(I)V" } : MethodName)) ∈ WS := WS_m4 (i := 89) rfl rfl
theorem kn_X3_ends : (Cond.instanceMethod ({ cls := "HumpYardModel", name := "ends", desc := "(I)V" } : MethodName)) ∈ WS := WS_m4 (i := 91) rfl rfl
theorem kc_X3_ends : (Cond.code ({ cls := "HumpYardModel", name := "ends", desc := "(I)V" } : MethodName) prog_5_method_24_code (5 : Nat) (Option.none : Option ClassFile.FieldType)) ∈ WS := WS_m4 (i := 92) rfl rfl
theorem km_X3_195 : (Cond.methodLink "HumpYardModel" (195 : Nat) ({ cls := "HumpYardModel", name := "pushes", desc := "()V" } : MethodName)) ∈ WS := WS_m4 (i := 93) rfl rfl
theorem kn_X3_pushes : (Cond.instanceMethod ({ cls := "HumpYardModel", name := "pushes", desc := "()V" } : MethodName)) ∈ WS := WS_m4 (i := 95) rfl rfl
theorem kc_X3_pushes : (Cond.code ({ cls := "HumpYardModel", name := "pushes", desc := "()V" } : MethodName) prog_5_method_25_code (4 : Nat) (Option.none : Option ClassFile.FieldType)) ∈ WS := WS_m4 (i := 96) rfl rfl
theorem km_L_99 : (Cond.methodLink "HumpYardLaw" (99 : Nat) ({ cls := "HumpYardModel", name := "place", desc := "(I)D" } : MethodName)) ∈ WS := WS_m4 (i := 97) rfl rfl
theorem kn_X3_place : (Cond.instanceMethod ({ cls := "HumpYardModel", name := "place", desc := "(I)D" } : MethodName)) ∈ WS := WS_m4 (i := 98) rfl rfl
theorem kv_X3_place : (Cond.selects "HumpYardModel" ({ cls := "HumpYardModel", name := "place", desc := "(I)D" } : MethodName) ({ cls := "HumpYardModel", name := "place", desc := "(I)D" } : MethodName)) ∈ WS := WS_m4 (i := 99) rfl rfl
theorem kc_X3_place : (Cond.code ({ cls := "HumpYardModel", name := "place", desc := "(I)D" } : MethodName) prog_5_method_28_code (2 : Nat) (Option.some ClassFile.FieldType.double)) ∈ WS := WS_m4 (i := 100) rfl rfl
theorem km_X3_198 : (Cond.methodLink "HumpYardModel" (198 : Nat) ({ cls := "HumpYardModel", name := "isCut", desc := "(I)Z" } : MethodName)) ∈ WS := WS_m4 (i := 101) rfl rfl
theorem kn_X3_isCut : (Cond.instanceMethod ({ cls := "HumpYardModel", name := "isCut", desc := "(I)Z" } : MethodName)) ∈ WS := WS_m4 (i := 103) rfl rfl
theorem kc_X3_isCut : (Cond.code ({ cls := "HumpYardModel", name := "isCut", desc := "(I)Z" } : MethodName) prog_5_method_27_code (2 : Nat) (Option.some ClassFile.FieldType.boolean)) ∈ WS := WS_m4 (i := 104) rfl rfl
theorem km_L_102 : (Cond.methodLink "HumpYardLaw" (102 : Nat) ({ cls := "HumpYardModel", name := "speed", desc := "(I)D" } : MethodName)) ∈ WS := WS_m4 (i := 105) rfl rfl
theorem kn_X3_speed : (Cond.instanceMethod ({ cls := "HumpYardModel", name := "speed", desc := "(I)D" } : MethodName)) ∈ WS := WS_m4 (i := 106) rfl rfl
theorem kv_X3_speed : (Cond.selects "HumpYardModel" ({ cls := "HumpYardModel", name := "speed", desc := "(I)D" } : MethodName) ({ cls := "HumpYardModel", name := "speed", desc := "(I)D" } : MethodName)) ∈ WS := WS_m4 (i := 107) rfl rfl
theorem kc_X3_speed : (Cond.code ({ cls := "HumpYardModel", name := "speed", desc := "(I)D" } : MethodName) prog_5_method_29_code (2 : Nat) (Option.some ClassFile.FieldType.double)) ∈ WS := WS_m4 (i := 108) rfl rfl
theorem km_L_106 : (Cond.methodLink "HumpYardLaw" (106 : Nat) ({ cls := "HumpYardModel", name := "told", desc := "(II)I" } : MethodName)) ∈ WS := WS_m4 (i := 109) rfl rfl
theorem kn_X3_told : (Cond.instanceMethod ({ cls := "HumpYardModel", name := "told", desc := "(II)I" } : MethodName)) ∈ WS := WS_m4 (i := 110) rfl rfl
theorem kv_X3_told : (Cond.selects "HumpYardModel" ({ cls := "HumpYardModel", name := "told", desc := "(II)I" } : MethodName) ({ cls := "HumpYardModel", name := "told", desc := "(II)I" } : MethodName)) ∈ WS := WS_m4 (i := 111) rfl rfl
theorem kc_X3_told : (Cond.code ({ cls := "HumpYardModel", name := "told", desc := "(II)I" } : MethodName) prog_5_method_30_code (3 : Nat) (Option.some ClassFile.FieldType.int)) ∈ WS := WS_m4 (i := 112) rfl rfl
theorem km_L_109 : (Cond.methodLink "HumpYardLaw" (109 : Nat) ({ cls := "HumpYardModel", name := "point", desc := "(II)I" } : MethodName)) ∈ WS := WS_m4 (i := 113) rfl rfl
theorem kn_X3_point : (Cond.instanceMethod ({ cls := "HumpYardModel", name := "point", desc := "(II)I" } : MethodName)) ∈ WS := WS_m4 (i := 114) rfl rfl
theorem kv_X3_point : (Cond.selects "HumpYardModel" ({ cls := "HumpYardModel", name := "point", desc := "(II)I" } : MethodName) ({ cls := "HumpYardModel", name := "point", desc := "(II)I" } : MethodName)) ∈ WS := WS_m4 (i := 115) rfl rfl
theorem kc_X3_point : (Cond.code ({ cls := "HumpYardModel", name := "point", desc := "(II)I" } : MethodName) prog_5_method_31_code (3 : Nat) (Option.some ClassFile.FieldType.int)) ∈ WS := WS_m4 (i := 116) rfl rfl
theorem km_L_112 : (Cond.methodLink "HumpYardLaw" (112 : Nat) ({ cls := "HumpYardModel", name := "siding", desc := "(II)I" } : MethodName)) ∈ WS := WS_m4 (i := 117) rfl rfl
theorem kn_X3_siding : (Cond.instanceMethod ({ cls := "HumpYardModel", name := "siding", desc := "(II)I" } : MethodName)) ∈ WS := WS_m4 (i := 118) rfl rfl
theorem kv_X3_siding : (Cond.selects "HumpYardModel" ({ cls := "HumpYardModel", name := "siding", desc := "(II)I" } : MethodName) ({ cls := "HumpYardModel", name := "siding", desc := "(II)I" } : MethodName)) ∈ WS := WS_m4 (i := 119) rfl rfl
theorem kc_X3_siding : (Cond.code ({ cls := "HumpYardModel", name := "siding", desc := "(II)I" } : MethodName) prog_5_method_32_code (3 : Nat) (Option.some ClassFile.FieldType.int)) ∈ WS := WS_m4 (i := 120) rfl rfl
theorem km_L_115 : (Cond.methodLink "HumpYardLaw" (115 : Nat) ({ cls := "HumpYardModel", name := "event", desc := "(II)I" } : MethodName)) ∈ WS := WS_m4 (i := 121) rfl rfl
theorem kn_X3_event : (Cond.instanceMethod ({ cls := "HumpYardModel", name := "event", desc := "(II)I" } : MethodName)) ∈ WS := WS_m4 (i := 122) rfl rfl
theorem kv_X3_event : (Cond.selects "HumpYardModel" ({ cls := "HumpYardModel", name := "event", desc := "(II)I" } : MethodName) ({ cls := "HumpYardModel", name := "event", desc := "(II)I" } : MethodName)) ∈ WS := WS_m4 (i := 123) rfl rfl
theorem kc_X3_event : (Cond.code ({ cls := "HumpYardModel", name := "event", desc := "(II)I" } : MethodName) prog_5_method_33_code (3 : Nat) (Option.some ClassFile.FieldType.int)) ∈ WS := WS_m4 (i := 124) rfl rfl
theorem km_L_118 : (Cond.methodLink "HumpYardLaw" (118 : Nat) ({ cls := "HumpYardModel", name := "about", desc := "(I)I" } : MethodName)) ∈ WS := WS_m4 (i := 125) rfl rfl
theorem kn_X3_about : (Cond.instanceMethod ({ cls := "HumpYardModel", name := "about", desc := "(I)I" } : MethodName)) ∈ WS := WS_m4 (i := 126) rfl rfl
theorem kv_X3_about : (Cond.selects "HumpYardModel" ({ cls := "HumpYardModel", name := "about", desc := "(I)I" } : MethodName) ({ cls := "HumpYardModel", name := "about", desc := "(I)I" } : MethodName)) ∈ WS := WS_m4 (i := 127) rfl rfl
theorem kc_X3_about : (Cond.code ({ cls := "HumpYardModel", name := "about", desc := "(I)I" } : MethodName) prog_5_method_34_code (4 : Nat) (Option.some ClassFile.FieldType.int)) ∈ WS := WS_m4 (i := 128) rfl rfl
theorem km_L_123 : (Cond.methodLink "HumpYardLaw" (123 : Nat) ({ cls := "HumpYardModel", name := "fastest", desc := "()D" } : MethodName)) ∈ WS := WS_m4 (i := 129) rfl rfl
theorem kn_X3_fastest : (Cond.instanceMethod ({ cls := "HumpYardModel", name := "fastest", desc := "()D" } : MethodName)) ∈ WS := WS_m4 (i := 130) rfl rfl
theorem kv_X3_fastest : (Cond.selects "HumpYardModel" ({ cls := "HumpYardModel", name := "fastest", desc := "()D" } : MethodName) ({ cls := "HumpYardModel", name := "fastest", desc := "()D" } : MethodName)) ∈ WS := WS_m4 (i := 131) rfl rfl
theorem kc_X3_fastest : (Cond.code ({ cls := "HumpYardModel", name := "fastest", desc := "()D" } : MethodName) prog_5_method_35_code (1 : Nat) (Option.some ClassFile.FieldType.double)) ∈ WS := WS_m4 (i := 132) rfl rfl
theorem kd_L_65 : (Cond.constantDouble "HumpYardLaw" (65 : Nat) (4593671619917905920 : UInt64)) ∈ WS := WS_m4 (i := 133) rfl rfl
theorem ka_long : (Cond.arrayClass ClassFile.FieldType.long) ∈ WS := WS_m4 (i := 134) rfl rfl
theorem kv_Object_getClass_42d1_9 : (Cond.selects "[Ljava/lang/Object;" ({ cls := "java/lang/Object", name := "getClass", desc := "()Ljava/lang/Class;" } : MethodName) ({ cls := "java/lang/Object", name := "getClass", desc := "()Ljava/lang/Class;" } : MethodName)) ∈ WS := WS_m4 (i := 138) rfl rfl
theorem inW_X0 : ∀ w ∈ u_ws RX0 TX0 10, w ∈ WS := fun w h => List.mem_filter.mpr ⟨(by decide +kernel : ∀ w ∈ u_ws RX0 TX0 10, w ∈ lw_tbl) w h, (by decide +kernel : ∀ w ∈ u_ws RX0 TX0 10, goodWord w = true) w h⟩
theorem inW_X1 : ∀ w ∈ u_ws RX1 TX1 2, w ∈ WS := fun w h => List.mem_filter.mpr ⟨(by decide +kernel : ∀ w ∈ u_ws RX1 TX1 2, w ∈ lw_tbl) w h, (by decide +kernel : ∀ w ∈ u_ws RX1 TX1 2, goodWord w = true) w h⟩
theorem inW_X2 : ∀ w ∈ u_ws RX2 TX2 16, w ∈ WS := fun w h => List.mem_filter.mpr ⟨(by decide +kernel : ∀ w ∈ u_ws RX2 TX2 16, w ∈ lw_tbl) w h, (by decide +kernel : ∀ w ∈ u_ws RX2 TX2 16, goodWord w = true) w h⟩
theorem inW_X3 : ∀ w ∈ u_ws RX3 TX3 24, w ∈ WS := fun w h => List.mem_filter.mpr ⟨(by decide +kernel : ∀ w ∈ u_ws RX3 TX3 24, w ∈ lw_tbl) w h, (by decide +kernel : ∀ w ∈ u_ws RX3 TX3 24, goodWord w = true) w h⟩
theorem inW_Jx4a65c : ∀ w ∈ u_ws RJx4a65c TJx4a65c 3, w ∈ WS := fun w h => List.mem_filter.mpr ⟨(by decide +kernel : ∀ w ∈ u_ws RJx4a65c TJx4a65c 3, w ∈ lw_tbl) w h, (by decide +kernel : ∀ w ∈ u_ws RJx4a65c TJx4a65c 3, goodWord w = true) w h⟩
