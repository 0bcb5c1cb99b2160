-- ===== PART A: goes FIRST, ahead of the names: the tables' words, and 'selects' of the private methods out of them =====
/-- a private method of a class that the tables say can be made, by its rows of tables_1 -/
def lw_okq (q : MethodName × Nat) : Prop := (q.1.cls ≠ "java/lang/invoke/MethodHandle" ∧ q.1.cls ≠ "java/lang/invoke/VarHandle") ∧ Cond.instantiable q.1.cls q.2 ∈ tables_1 ∧ Cond.privateMethod q.1 ∈ tables_1 ∧ Cond.instanceMethod q.1 ∈ tables_1
theorem lw_p0 : lw_okq (⟨"OncePerRoad", "rowRefusal", "(IZ)I"⟩, 9) := ⟨⟨by decide +kernel, by decide +kernel⟩, List.mem_of_getElem? (i := 24) (by decide +kernel), List.mem_of_getElem? (i := 173) (by decide +kernel), List.mem_of_getElem? (i := 174) (by decide +kernel)⟩
theorem lw_p1 : lw_okq (⟨"OncePerRoad", "applyStatement", "(LOncePerRoad$Row;I)Z"⟩, 9) := ⟨⟨by decide +kernel, by decide +kernel⟩, List.mem_of_getElem? (i := 24) (by decide +kernel), List.mem_of_getElem? (i := 201) (by decide +kernel), List.mem_of_getElem? (i := 202) (by decide +kernel)⟩
theorem lw_p2 : lw_okq (⟨"OncePerRoad", "milesGone", "(LOncePerRoad$Land;IIII)I"⟩, 9) := ⟨⟨by decide +kernel, by decide +kernel⟩, List.mem_of_getElem? (i := 24) (by decide +kernel), List.mem_of_getElem? (i := 341) (by decide +kernel), List.mem_of_getElem? (i := 342) (by decide +kernel)⟩
theorem lw_p3 : lw_okq (⟨"OncePerRoad$Way", "extend", "(IIII)V"⟩, 9) := ⟨⟨by decide +kernel, by decide +kernel⟩, List.mem_of_getElem? (i := 83) (by decide +kernel), List.mem_of_getElem? (i := 350) (by decide +kernel), List.mem_of_getElem? (i := 351) (by decide +kernel)⟩
theorem lw_p4 : lw_okq (⟨"OncePerRoad", "carrierRefusal", "(I)I"⟩, 9) := ⟨⟨by decide +kernel, by decide +kernel⟩, List.mem_of_getElem? (i := 24) (by decide +kernel), List.mem_of_getElem? (i := 479) (by decide +kernel), List.mem_of_getElem? (i := 480) (by decide +kernel)⟩
theorem lw_p5 : lw_okq (⟨"OncePerRoad", "isErrand", "(III)Z"⟩, 9) := ⟨⟨by decide +kernel, by decide +kernel⟩, List.mem_of_getElem? (i := 24) (by decide +kernel), List.mem_of_getElem? (i := 505) (by decide +kernel), List.mem_of_getElem? (i := 506) (by decide +kernel)⟩
theorem lw_p6 : lw_okq (⟨"OncePerRoad$Land", "reachAlong", "(III)V"⟩, 10) := ⟨⟨by decide +kernel, by decide +kernel⟩, List.mem_of_getElem? (i := 32) (by decide +kernel), List.mem_of_getElem? (i := 513) (by decide +kernel), List.mem_of_getElem? (i := 514) (by decide +kernel)⟩
theorem lw_p7 : lw_okq (⟨"OncePerRoad$Land", "areAllServed", "(II)Z"⟩, 10) := ⟨⟨by decide +kernel, by decide +kernel⟩, List.mem_of_getElem? (i := 32) (by decide +kernel), List.mem_of_getElem? (i := 545) (by decide +kernel), List.mem_of_getElem? (i := 546) (by decide +kernel)⟩
theorem lw_p8 : lw_okq (⟨"OncePerRoad", "carriagesRefusal", "(II)I"⟩, 9) := ⟨⟨by decide +kernel, by decide +kernel⟩, List.mem_of_getElem? (i := 24) (by decide +kernel), List.mem_of_getElem? (i := 575) (by decide +kernel), List.mem_of_getElem? (i := 576) (by decide +kernel)⟩
theorem lw_p9 : lw_okq (⟨"OncePerRoad", "milesOfCarriage", "(LOncePerRoad$Row;I)I"⟩, 9) := ⟨⟨by decide +kernel, by decide +kernel⟩, List.mem_of_getElem? (i := 24) (by decide +kernel), List.mem_of_getElem? (i := 579) (by decide +kernel), List.mem_of_getElem? (i := 580) (by decide +kernel)⟩
theorem lw_p10 : lw_okq (⟨"OncePerRoad", "ordersOfAll", "(LOncePerRoad$Row;III)I"⟩, 9) := ⟨⟨by decide +kernel, by decide +kernel⟩, List.mem_of_getElem? (i := 24) (by decide +kernel), List.mem_of_getElem? (i := 587) (by decide +kernel), List.mem_of_getElem? (i := 588) (by decide +kernel)⟩
theorem lw_p11 : lw_okq (⟨"java/lang/Throwable", "fillInStackTrace", "(I)Ljava/lang/Throwable;"⟩, 6) := ⟨⟨by decide +kernel, by decide +kernel⟩, List.mem_of_getElem? (i := 748) (by decide +kernel), List.mem_of_getElem? (i := 746) (by decide +kernel), List.mem_of_getElem? (i := 747) (by decide +kernel)⟩
theorem lw_p12 : lw_okq (⟨"OncePerRoadModel", "wrongRow", "(II)I"⟩, 30) := ⟨⟨by decide +kernel, by decide +kernel⟩, List.mem_of_getElem? (i := 831) (by decide +kernel), List.mem_of_getElem? (i := 936) (by decide +kernel), List.mem_of_getElem? (i := 937) (by decide +kernel)⟩
theorem lw_p13 : lw_okq (⟨"OncePerRoadModel", "readsStatement", "()Z"⟩, 30) := ⟨⟨by decide +kernel, by decide +kernel⟩, List.mem_of_getElem? (i := 831) (by decide +kernel), List.mem_of_getElem? (i := 947) (by decide +kernel), List.mem_of_getElem? (i := 948) (by decide +kernel)⟩
theorem lw_p14 : lw_okq (⟨"OncePerRoadModel", "here", "()I"⟩, 30) := ⟨⟨by decide +kernel, by decide +kernel⟩, List.mem_of_getElem? (i := 831) (by decide +kernel), List.mem_of_getElem? (i := 951) (by decide +kernel), List.mem_of_getElem? (i := 952) (by decide +kernel)⟩
theorem lw_p15 : lw_okq (⟨"OncePerRoadModel", "readsDigits", "(I)Z"⟩, 30) := ⟨⟨by decide +kernel, by decide +kernel⟩, List.mem_of_getElem? (i := 831) (by decide +kernel), List.mem_of_getElem? (i := 955) (by decide +kernel), List.mem_of_getElem? (i := 956) (by decide +kernel)⟩
def lw_privs_1 : List (MethodName × Nat) := [(⟨"OncePerRoad", "rowRefusal", "(IZ)I"⟩, 9), (⟨"OncePerRoad", "applyStatement", "(LOncePerRoad$Row;I)Z"⟩, 9), (⟨"OncePerRoad", "milesGone", "(LOncePerRoad$Land;IIII)I"⟩, 9), (⟨"OncePerRoad$Way", "extend", "(IIII)V"⟩, 9), (⟨"OncePerRoad", "carrierRefusal", "(I)I"⟩, 9), (⟨"OncePerRoad", "isErrand", "(III)Z"⟩, 9), (⟨"OncePerRoad$Land", "reachAlong", "(III)V"⟩, 10), (⟨"OncePerRoad$Land", "areAllServed", "(II)Z"⟩, 10), (⟨"OncePerRoad", "carriagesRefusal", "(II)I"⟩, 9), (⟨"OncePerRoad", "milesOfCarriage", "(LOncePerRoad$Row;I)I"⟩, 9), (⟨"OncePerRoad", "ordersOfAll", "(LOncePerRoad$Row;III)I"⟩, 9), (⟨"java/lang/Throwable", "fillInStackTrace", "(I)Ljava/lang/Throwable;"⟩, 6), (⟨"OncePerRoadModel", "wrongRow", "(II)I"⟩, 30), (⟨"OncePerRoadModel", "readsStatement", "()Z"⟩, 30), (⟨"OncePerRoadModel", "here", "()I"⟩, 30), (⟨"OncePerRoadModel", "readsDigits", "(I)Z"⟩, 30)]
theorem lw_r1 : ∀ q ∈ lw_privs_1, lw_okq q := List.forall_mem_cons.mpr ⟨lw_p0, List.forall_mem_cons.mpr ⟨lw_p1, List.forall_mem_cons.mpr ⟨lw_p2, List.forall_mem_cons.mpr ⟨lw_p3, List.forall_mem_cons.mpr ⟨lw_p4, List.forall_mem_cons.mpr ⟨lw_p5, List.forall_mem_cons.mpr ⟨lw_p6, List.forall_mem_cons.mpr ⟨lw_p7, List.forall_mem_cons.mpr ⟨lw_p8, List.forall_mem_cons.mpr ⟨lw_p9, List.forall_mem_cons.mpr ⟨lw_p10, List.forall_mem_cons.mpr ⟨lw_p11, List.forall_mem_cons.mpr ⟨lw_p12, List.forall_mem_cons.mpr ⟨lw_p13, List.forall_mem_cons.mpr ⟨lw_p14, List.forall_mem_cons.mpr ⟨lw_p15, fun _ h => absurd h List.not_mem_nil⟩⟩⟩⟩⟩⟩⟩⟩⟩⟩⟩⟩⟩⟩⟩⟩
theorem lw_p16 : lw_okq (⟨"OncePerRoadModel", "comesTold", "(I)Z"⟩, 30) := ⟨⟨by decide +kernel, by decide +kernel⟩, List.mem_of_getElem? (i := 831) (by decide +kernel), List.mem_of_getElem? (i := 964) (by decide +kernel), List.mem_of_getElem? (i := 965) (by decide +kernel)⟩
theorem lw_p17 : lw_okq (⟨"OncePerRoadModel", "areTwo", "(II)Z"⟩, 30) := ⟨⟨by decide +kernel, by decide +kernel⟩, List.mem_of_getElem? (i := 831) (by decide +kernel), List.mem_of_getElem? (i := 968) (by decide +kernel), List.mem_of_getElem? (i := 969) (by decide +kernel)⟩
theorem lw_p18 : lw_okq (⟨"OncePerRoadModel", "isPlace", "(I)Z"⟩, 30) := ⟨⟨by decide +kernel, by decide +kernel⟩, List.mem_of_getElem? (i := 831) (by decide +kernel), List.mem_of_getElem? (i := 972) (by decide +kernel), List.mem_of_getElem? (i := 973) (by decide +kernel)⟩
theorem lw_p19 : lw_okq (⟨"OncePerRoadModel", "layRoad", "(III)V"⟩, 30) := ⟨⟨by decide +kernel, by decide +kernel⟩, List.mem_of_getElem? (i := 831) (by decide +kernel), List.mem_of_getElem? (i := 976) (by decide +kernel), List.mem_of_getElem? (i := 977) (by decide +kernel)⟩
theorem lw_p20 : lw_okq (⟨"OncePerRoadModel", "puts", "(III)V"⟩, 30) := ⟨⟨by decide +kernel, by decide +kernel⟩, List.mem_of_getElem? (i := 831) (by decide +kernel), List.mem_of_getElem? (i := 980) (by decide +kernel), List.mem_of_getElem? (i := 981) (by decide +kernel)⟩
theorem lw_p21 : lw_okq (⟨"OncePerRoadModel", "isRoad", "(I)Z"⟩, 30) := ⟨⟨by decide +kernel, by decide +kernel⟩, List.mem_of_getElem? (i := 831) (by decide +kernel), List.mem_of_getElem? (i := 984) (by decide +kernel), List.mem_of_getElem? (i := 985) (by decide +kernel)⟩
theorem lw_p22 : lw_okq (⟨"OncePerRoadModel", "isFree", "(II)Z"⟩, 30) := ⟨⟨by decide +kernel, by decide +kernel⟩, List.mem_of_getElem? (i := 831) (by decide +kernel), List.mem_of_getElem? (i := 992) (by decide +kernel), List.mem_of_getElem? (i := 993) (by decide +kernel)⟩
theorem lw_p23 : lw_okq (⟨"OncePerRoadModel", "get", "(II)I"⟩, 30) := ⟨⟨by decide +kernel, by decide +kernel⟩, List.mem_of_getElem? (i := 831) (by decide +kernel), List.mem_of_getElem? (i := 996) (by decide +kernel), List.mem_of_getElem? (i := 997) (by decide +kernel)⟩
theorem lw_p24 : lw_okq (⟨"OncePerRoadModel", "adds", "(II)Z"⟩, 30) := ⟨⟨by decide +kernel, by decide +kernel⟩, List.mem_of_getElem? (i := 831) (by decide +kernel), List.mem_of_getElem? (i := 1000) (by decide +kernel), List.mem_of_getElem? (i := 1001) (by decide +kernel)⟩
theorem lw_p25 : lw_okq (⟨"OncePerRoadModel", "isCarrier", "(I)Z"⟩, 30) := ⟨⟨by decide +kernel, by decide +kernel⟩, List.mem_of_getElem? (i := 831) (by decide +kernel), List.mem_of_getElem? (i := 1004) (by decide +kernel), List.mem_of_getElem? (i := 1005) (by decide +kernel)⟩
theorem lw_p26 : lw_okq (⟨"OncePerRoadModel", "goes", "(IIII)Z"⟩, 30) := ⟨⟨by decide +kernel, by decide +kernel⟩, List.mem_of_getElem? (i := 831) (by decide +kernel), List.mem_of_getElem? (i := 1008) (by decide +kernel), List.mem_of_getElem? (i := 1009) (by decide +kernel)⟩
theorem lw_p27 : lw_okq (⟨"OncePerRoadModel", "findsWay", "(IIII)Z"⟩, 30) := ⟨⟨by decide +kernel, by decide +kernel⟩, List.mem_of_getElem? (i := 831) (by decide +kernel), List.mem_of_getElem? (i := 1012) (by decide +kernel), List.mem_of_getElem? (i := 1013) (by decide +kernel)⟩
theorem lw_p28 : lw_okq (⟨"OncePerRoadModel", "tries", "(IIIIIIII)V"⟩, 30) := ⟨⟨by decide +kernel, by decide +kernel⟩, List.mem_of_getElem? (i := 831) (by decide +kernel), List.mem_of_getElem? (i := 1016) (by decide +kernel), List.mem_of_getElem? (i := 1017) (by decide +kernel)⟩
theorem lw_p29 : lw_okq (⟨"OncePerRoadModel", "kind", "(I)I"⟩, 30) := ⟨⟨by decide +kernel, by decide +kernel⟩, List.mem_of_getElem? (i := 831) (by decide +kernel), List.mem_of_getElem? (i := 1020) (by decide +kernel), List.mem_of_getElem? (i := 1021) (by decide +kernel)⟩
theorem lw_p30 : lw_okq (⟨"OncePerRoadModel", "figure", "(I)I"⟩, 30) := ⟨⟨by decide +kernel, by decide +kernel⟩, List.mem_of_getElem? (i := 831) (by decide +kernel), List.mem_of_getElem? (i := 1024) (by decide +kernel), List.mem_of_getElem? (i := 1025) (by decide +kernel)⟩
theorem lw_p31 : lw_okq (⟨"OncePerRoadModel", "loads", "(IIII)I"⟩, 30) := ⟨⟨by decide +kernel, by decide +kernel⟩, List.mem_of_getElem? (i := 831) (by decide +kernel), List.mem_of_getElem? (i := 1028) (by decide +kernel), List.mem_of_getElem? (i := 1029) (by decide +kernel)⟩
def lw_privs_2 : List (MethodName × Nat) := [(⟨"OncePerRoadModel", "comesTold", "(I)Z"⟩, 30), (⟨"OncePerRoadModel", "areTwo", "(II)Z"⟩, 30), (⟨"OncePerRoadModel", "isPlace", "(I)Z"⟩, 30), (⟨"OncePerRoadModel", "layRoad", "(III)V"⟩, 30), (⟨"OncePerRoadModel", "puts", "(III)V"⟩, 30), (⟨"OncePerRoadModel", "isRoad", "(I)Z"⟩, 30), (⟨"OncePerRoadModel", "isFree", "(II)Z"⟩, 30), (⟨"OncePerRoadModel", "get", "(II)I"⟩, 30), (⟨"OncePerRoadModel", "adds", "(II)Z"⟩, 30), (⟨"OncePerRoadModel", "isCarrier", "(I)Z"⟩, 30), (⟨"OncePerRoadModel", "goes", "(IIII)Z"⟩, 30), (⟨"OncePerRoadModel", "findsWay", "(IIII)Z"⟩, 30), (⟨"OncePerRoadModel", "tries", "(IIIIIIII)V"⟩, 30), (⟨"OncePerRoadModel", "kind", "(I)I"⟩, 30), (⟨"OncePerRoadModel", "figure", "(I)I"⟩, 30), (⟨"OncePerRoadModel", "loads", "(IIII)I"⟩, 30)]
theorem lw_r2 : ∀ q ∈ lw_privs_2, lw_okq q := List.forall_mem_cons.mpr ⟨lw_p16, List.forall_mem_cons.mpr ⟨lw_p17, List.forall_mem_cons.mpr ⟨lw_p18, List.forall_mem_cons.mpr ⟨lw_p19, List.forall_mem_cons.mpr ⟨lw_p20, List.forall_mem_cons.mpr ⟨lw_p21, List.forall_mem_cons.mpr ⟨lw_p22, List.forall_mem_cons.mpr ⟨lw_p23, List.forall_mem_cons.mpr ⟨lw_p24, List.forall_mem_cons.mpr ⟨lw_p25, List.forall_mem_cons.mpr ⟨lw_p26, List.forall_mem_cons.mpr ⟨lw_p27, List.forall_mem_cons.mpr ⟨lw_p28, List.forall_mem_cons.mpr ⟨lw_p29, List.forall_mem_cons.mpr ⟨lw_p30, List.forall_mem_cons.mpr ⟨lw_p31, fun _ h => absurd h List.not_mem_nil⟩⟩⟩⟩⟩⟩⟩⟩⟩⟩⟩⟩⟩⟩⟩⟩
theorem lw_p32 : lw_okq (⟨"OncePerRoadModel", "to", "(II)I"⟩, 30) := ⟨⟨by decide +kernel, by decide +kernel⟩, List.mem_of_getElem? (i := 831) (by decide +kernel), List.mem_of_getElem? (i := 1032) (by decide +kernel), List.mem_of_getElem? (i := 1033) (by decide +kernel)⟩
theorem lw_p33 : lw_okq (⟨"OncePerRoadModel", "weightOf", "(III)I"⟩, 30) := ⟨⟨by decide +kernel, by decide +kernel⟩, List.mem_of_getElem? (i := 831) (by decide +kernel), List.mem_of_getElem? (i := 1036) (by decide +kernel), List.mem_of_getElem? (i := 1037) (by decide +kernel)⟩
theorem lw_p34 : lw_okq (⟨"OncePerRoadModel", "wrongKept", "(I)I"⟩, 30) := ⟨⟨by decide +kernel, by decide +kernel⟩, List.mem_of_getElem? (i := 831) (by decide +kernel), List.mem_of_getElem? (i := 1055) (by decide +kernel), List.mem_of_getElem? (i := 1056) (by decide +kernel)⟩
theorem lw_p35 : lw_okq (⟨"OncePerRoadModel", "isAsked", "(IIII)Z"⟩, 30) := ⟨⟨by decide +kernel, by decide +kernel⟩, List.mem_of_getElem? (i := 831) (by decide +kernel), List.mem_of_getElem? (i := 1067) (by decide +kernel), List.mem_of_getElem? (i := 1068) (by decide +kernel)⟩
theorem lw_p36 : lw_okq (⟨"OncePerRoadModel", "isGoodWay", "(III)Z"⟩, 30) := ⟨⟨by decide +kernel, by decide +kernel⟩, List.mem_of_getElem? (i := 831) (by decide +kernel), List.mem_of_getElem? (i := 1084) (by decide +kernel), List.mem_of_getElem? (i := 1085) (by decide +kernel)⟩
theorem lw_p37 : lw_okq (⟨"OncePerRoadModel", "farOf", "(III)I"⟩, 30) := ⟨⟨by decide +kernel, by decide +kernel⟩, List.mem_of_getElem? (i := 831) (by decide +kernel), List.mem_of_getElem? (i := 1088) (by decide +kernel), List.mem_of_getElem? (i := 1089) (by decide +kernel)⟩
theorem lw_p38 : lw_okq (⟨"OncePerRoadModel", "manyOf", "(IIII)I"⟩, 30) := ⟨⟨by decide +kernel, by decide +kernel⟩, List.mem_of_getElem? (i := 831) (by decide +kernel), List.mem_of_getElem? (i := 1096) (by decide +kernel), List.mem_of_getElem? (i := 1097) (by decide +kernel)⟩
theorem lw_p39 : lw_okq (⟨"OncePerRoadModel", "leads", "(III)I"⟩, 30) := ⟨⟨by decide +kernel, by decide +kernel⟩, List.mem_of_getElem? (i := 831) (by decide +kernel), List.mem_of_getElem? (i := 1100) (by decide +kernel), List.mem_of_getElem? (i := 1101) (by decide +kernel)⟩
theorem lw_p40 : lw_okq (⟨"OncePerRoadModel", "canServe", "(III)Z"⟩, 30) := ⟨⟨by decide +kernel, by decide +kernel⟩, List.mem_of_getElem? (i := 831) (by decide +kernel), List.mem_of_getElem? (i := 1108) (by decide +kernel), List.mem_of_getElem? (i := 1109) (by decide +kernel)⟩
theorem lw_p41 : lw_okq (⟨"OncePerRoadModel", "roundFrom", "(IIIIII)V"⟩, 30) := ⟨⟨by decide +kernel, by decide +kernel⟩, List.mem_of_getElem? (i := 831) (by decide +kernel), List.mem_of_getElem? (i := 1128) (by decide +kernel), List.mem_of_getElem? (i := 1129) (by decide +kernel)⟩
theorem lw_p42 : lw_okq (⟨"OncePerRoadModel", "begins", "()V"⟩, 30) := ⟨⟨by decide +kernel, by decide +kernel⟩, List.mem_of_getElem? (i := 831) (by decide +kernel), List.mem_of_getElem? (i := 1136) (by decide +kernel), List.mem_of_getElem? (i := 1137) (by decide +kernel)⟩
theorem lw_p43 : lw_okq (⟨"OncePerRoadModel", "ends", "()V"⟩, 30) := ⟨⟨by decide +kernel, by decide +kernel⟩, List.mem_of_getElem? (i := 831) (by decide +kernel), List.mem_of_getElem? (i := 1140) (by decide +kernel), List.mem_of_getElem? (i := 1141) (by decide +kernel)⟩
theorem lw_p44 : lw_okq (⟨"OncePerRoadModel", "wrongAsk", "(II)I"⟩, 30) := ⟨⟨by decide +kernel, by decide +kernel⟩, List.mem_of_getElem? (i := 831) (by decide +kernel), List.mem_of_getElem? (i := 1148) (by decide +kernel), List.mem_of_getElem? (i := 1149) (by decide +kernel)⟩
theorem lw_p45 : lw_okq (⟨"OncePerRoadModel", "wrongCarriages", "(I)I"⟩, 30) := ⟨⟨by decide +kernel, by decide +kernel⟩, List.mem_of_getElem? (i := 831) (by decide +kernel), List.mem_of_getElem? (i := 1152) (by decide +kernel), List.mem_of_getElem? (i := 1153) (by decide +kernel)⟩
theorem lw_p46 : lw_okq (⟨"OncePerRoadModel", "told", "(II)I"⟩, 30) := ⟨⟨by decide +kernel, by decide +kernel⟩, List.mem_of_getElem? (i := 831) (by decide +kernel), List.mem_of_getElem? (i := 1156) (by decide +kernel), List.mem_of_getElem? (i := 1157) (by decide +kernel)⟩
theorem lw_p47 : lw_okq (⟨"OncePerRoadModel", "goesTold", "(II)Z"⟩, 30) := ⟨⟨by decide +kernel, by decide +kernel⟩, List.mem_of_getElem? (i := 831) (by decide +kernel), List.mem_of_getElem? (i := 1160) (by decide +kernel), List.mem_of_getElem? (i := 1161) (by decide +kernel)⟩
def lw_privs_3 : List (MethodName × Nat) := [(⟨"OncePerRoadModel", "to", "(II)I"⟩, 30), (⟨"OncePerRoadModel", "weightOf", "(III)I"⟩, 30), (⟨"OncePerRoadModel", "wrongKept", "(I)I"⟩, 30), (⟨"OncePerRoadModel", "isAsked", "(IIII)Z"⟩, 30), (⟨"OncePerRoadModel", "isGoodWay", "(III)Z"⟩, 30), (⟨"OncePerRoadModel", "farOf", "(III)I"⟩, 30), (⟨"OncePerRoadModel", "manyOf", "(IIII)I"⟩, 30), (⟨"OncePerRoadModel", "leads", "(III)I"⟩, 30), (⟨"OncePerRoadModel", "canServe", "(III)Z"⟩, 30), (⟨"OncePerRoadModel", "roundFrom", "(IIIIII)V"⟩, 30), (⟨"OncePerRoadModel", "begins", "()V"⟩, 30), (⟨"OncePerRoadModel", "ends", "()V"⟩, 30), (⟨"OncePerRoadModel", "wrongAsk", "(II)I"⟩, 30), (⟨"OncePerRoadModel", "wrongCarriages", "(I)I"⟩, 30), (⟨"OncePerRoadModel", "told", "(II)I"⟩, 30), (⟨"OncePerRoadModel", "goesTold", "(II)Z"⟩, 30)]
theorem lw_r3 : ∀ q ∈ lw_privs_3, lw_okq q := List.forall_mem_cons.mpr ⟨lw_p32, List.forall_mem_cons.mpr ⟨lw_p33, List.forall_mem_cons.mpr ⟨lw_p34, List.forall_mem_cons.mpr ⟨lw_p35, List.forall_mem_cons.mpr ⟨lw_p36, List.forall_mem_cons.mpr ⟨lw_p37, List.forall_mem_cons.mpr ⟨lw_p38, List.forall_mem_cons.mpr ⟨lw_p39, List.forall_mem_cons.mpr ⟨lw_p40, List.forall_mem_cons.mpr ⟨lw_p41, List.forall_mem_cons.mpr ⟨lw_p42, List.forall_mem_cons.mpr ⟨lw_p43, List.forall_mem_cons.mpr ⟨lw_p44, List.forall_mem_cons.mpr ⟨lw_p45, List.forall_mem_cons.mpr ⟨lw_p46, List.forall_mem_cons.mpr ⟨lw_p47, fun _ h => absurd h List.not_mem_nil⟩⟩⟩⟩⟩⟩⟩⟩⟩⟩⟩⟩⟩⟩⟩⟩
theorem lw_p48 : lw_okq (⟨"OncePerRoadModel", "ordersFrom", "(III)V"⟩, 30) := ⟨⟨by decide +kernel, by decide +kernel⟩, List.mem_of_getElem? (i := 831) (by decide +kernel), List.mem_of_getElem? (i := 1168) (by decide +kernel), List.mem_of_getElem? (i := 1169) (by decide +kernel)⟩
theorem lw_p49 : lw_okq (⟨"OncePerRoadModel", "goesBy", "(I)V"⟩, 30) := ⟨⟨by decide +kernel, by decide +kernel⟩, List.mem_of_getElem? (i := 831) (by decide +kernel), List.mem_of_getElem? (i := 1172) (by decide +kernel), List.mem_of_getElem? (i := 1173) (by decide +kernel)⟩
theorem lw_p50 : lw_okq (⟨"OncePerRoadModel", "drawn", "(I)I"⟩, 30) := ⟨⟨by decide +kernel, by decide +kernel⟩, List.mem_of_getElem? (i := 831) (by decide +kernel), List.mem_of_getElem? (i := 1181) (by decide +kernel), List.mem_of_getElem? (i := 1182) (by decide +kernel)⟩
theorem lw_p51 : lw_okq (⟨"OncePerRoadModel", "wrongTwo", "(II)I"⟩, 30) := ⟨⟨by decide +kernel, by decide +kernel⟩, List.mem_of_getElem? (i := 831) (by decide +kernel), List.mem_of_getElem? (i := 1192) (by decide +kernel), List.mem_of_getElem? (i := 1193) (by decide +kernel)⟩
def lw_privs_4 : List (MethodName × Nat) := [(⟨"OncePerRoadModel", "ordersFrom", "(III)V"⟩, 30), (⟨"OncePerRoadModel", "goesBy", "(I)V"⟩, 30), (⟨"OncePerRoadModel", "drawn", "(I)I"⟩, 30), (⟨"OncePerRoadModel", "wrongTwo", "(II)I"⟩, 30)]
theorem lw_r4 : ∀ q ∈ lw_privs_4, lw_okq q := List.forall_mem_cons.mpr ⟨lw_p48, List.forall_mem_cons.mpr ⟨lw_p49, List.forall_mem_cons.mpr ⟨lw_p50, List.forall_mem_cons.mpr ⟨lw_p51, fun _ h => absurd h List.not_mem_nil⟩⟩⟩⟩
def lw_privs : List (MethodName × Nat) := lw_privs_1 ++ (lw_privs_2 ++ (lw_privs_3 ++ (lw_privs_4)))
def lw_tbl : List Cond := k2_sels lw_privs ++ tables_1
theorem lw_privs_ok : ∀ q ∈ lw_privs, lw_okq q := by
  show ∀ q ∈ lw_privs_1 ++ (lw_privs_2 ++ (lw_privs_3 ++ (lw_privs_4))), lw_okq q
  exact List.forall_mem_append.mpr ⟨lw_r1, List.forall_mem_append.mpr ⟨lw_r2, List.forall_mem_append.mpr ⟨lw_r3, lw_r4⟩⟩⟩
-- ===== end of PART A; then your names; then what follows =====
def RX0 : String := "OncePerRoad$Carrier"
def TX0 : u_T := fun k => match k with
  | 0 => ("OncePerRoad$Carrier", "kind", "I", true)
  | _ => ("OncePerRoad$Carrier", "figure", "I", true)
def tyX0 : Nat → FieldType := fun k => match k with
  | 0 => .int
  | _ => .int
abbrev wsX00 : List Cond := u_ws RX0 TX0 2
theorem nmX0 : ∀ a, a < 2 → ∀ b, b < 2 → a ≠ b → (TX0 a).2.1 ≠ (TX0 b).2.1 := by decide +kernel
theorem tyX0_ok : ∀ k, k < 2 → parseFieldDescriptor (TX0 k).2.2.1 = some (tyX0 k) := by decide +kernel
abbrev cX0_init : ByteArray := prog_2_method_1_code
def yX0_init : MethodName := ⟨RX0, "<init>", "(II)V"⟩
abbrev cX0_loads : ByteArray := prog_2_method_2_code
def yX0_loads : MethodName := ⟨RX0, "loads", "(III)I"⟩
abbrev cX0_mayGo : ByteArray := prog_2_method_3_code
def yX0_mayGo : MethodName := ⟨RX0, "mayGo", "(III)Z"⟩
abbrev cX0_leaves : ByteArray := prog_2_method_4_code
def yX0_leaves : MethodName := ⟨RX0, "leaves", "(II)I"⟩
abbrev cX0_weightOf : ByteArray := prog_2_method_5_code
def yX0_weightOf : MethodName := ⟨RX0, "weightOf", "(III)I"⟩
abbrev cX0_mostRoads : ByteArray := prog_2_method_6_code
def yX0_mostRoads : MethodName := ⟨RX0, "mostRoads", "()I"⟩
abbrev cX0_pay : ByteArray := prog_2_method_7_code
def yX0_pay : MethodName := ⟨RX0, "pay", "()I"⟩
abbrev cX0_fail : ByteArray := prog_2_method_8_code
def yX0_fail : MethodName := ⟨RX0, "fail", "()V"⟩
def RX1 : String := "OncePerRoad$Ferry"
def TX1 : u_T := fun k => match k with
  | 0 => ("OncePerRoad$Carrier", "kind", "I", true)
  | _ => ("OncePerRoad$Carrier", "figure", "I", true)
def tyX1 : Nat → FieldType := fun k => match k with
  | 0 => .int
  | _ => .int
abbrev wsX10 : List Cond := u_ws RX1 TX1 2
theorem nmX1 : ∀ a, a < 2 → ∀ b, b < 2 → a ≠ b → (TX1 a).2.1 ≠ (TX1 b).2.1 := by decide +kernel
theorem tyX1_ok : ∀ k, k < 2 → parseFieldDescriptor (TX1 k).2.2.1 = some (tyX1 k) := by decide +kernel
abbrev cX1_init : ByteArray := prog_3_method_1_code
def yX1_init : MethodName := ⟨RX1, "<init>", "(II)V"⟩
abbrev cX1_mayGo : ByteArray := prog_3_method_2_code
def yX1_mayGo : MethodName := ⟨RX1, "mayGo", "(III)Z"⟩
abbrev cX1_leaves : ByteArray := prog_3_method_3_code
def yX1_leaves : MethodName := ⟨RX1, "leaves", "(II)I"⟩
abbrev cX1_pay : ByteArray := prog_3_method_4_code
def yX1_pay : MethodName := ⟨RX1, "pay", "()I"⟩
abbrev cX1_fail : ByteArray := prog_3_method_5_code
def yX1_fail : MethodName := ⟨RX1, "fail", "()V"⟩
def RX2 : String := "OncePerRoad$Land"
def TX2 : u_T := fun k => match k with
  | 0 => ("OncePerRoad$Land", "places", "I", false)
  | 1 => ("OncePerRoad$Land", "roads", "I", false)
  | 2 => ("OncePerRoad$Land", "carriers", "I", false)
  | 3 => ("OncePerRoad$Land", "nicks", "J", false)
  | 4 => ("OncePerRoad$Land", "from", "[I", true)
  | 5 => ("OncePerRoad$Land", "to", "[I", true)
  | 6 => ("OncePerRoad$Land", "miles", "[I", true)
  | 7 => ("OncePerRoad$Land", "hired", "[LOncePerRoad$Carrier;", true)
  | 8 => ("OncePerRoad$Land", "leading", "[I", true)
  | _ => ("OncePerRoad$Land", "reached", "[I", true)
def tyX2 : Nat → FieldType := fun k => match k with
  | 0 => .int
  | 1 => .int
  | 2 => .int
  | 3 => .long
  | 4 => .array .int
  | 5 => .array .int
  | 6 => .array .int
  | 7 => .array (.object "OncePerRoad$Carrier")
  | 8 => .array .int
  | _ => .array .int
abbrev wsX20 : List Cond := u_ws RX2 TX2 10
theorem nmX2 : ∀ a, a < 10 → ∀ b, b < 10 → a ≠ b → (TX2 a).2.1 ≠ (TX2 b).2.1 := by decide +kernel
theorem tyX2_ok : ∀ k, k < 10 → parseFieldDescriptor (TX2 k).2.2.1 = some (tyX2 k) := by decide +kernel
abbrev cX2_init : ByteArray := prog_4_method_1_code
def yX2_init : MethodName := ⟨RX2, "<init>", "()V"⟩
abbrev cX2_become : ByteArray := prog_4_method_2_code
def yX2_become : MethodName := ⟨RX2, "become", "(LOncePerRoad$Land;)V"⟩
abbrev cX2_hasPlace : ByteArray := prog_4_method_3_code
def yX2_hasPlace : MethodName := ⟨RX2, "hasPlace", "(I)Z"⟩
abbrev cX2_areTwoPlaces : ByteArray := prog_4_method_4_code
def yX2_areTwoPlaces : MethodName := ⟨RX2, "areTwoPlaces", "(II)Z"⟩
abbrev cX2_hasRoad : ByteArray := prog_4_method_5_code
def yX2_hasRoad : MethodName := ⟨RX2, "hasRoad", "(I)Z"⟩
abbrev cX2_carrierAt : ByteArray := prog_4_method_6_code
def yX2_carrierAt : MethodName := ⟨RX2, "carrierAt", "(I)LOncePerRoad$Carrier;"⟩
abbrev cX2_setPlaces : ByteArray := prog_4_method_7_code
def yX2_setPlaces : MethodName := ⟨RX2, "setPlaces", "(I)Z"⟩
abbrev cX2_addRoad : ByteArray := prog_4_method_8_code
def yX2_addRoad : MethodName := ⟨RX2, "addRoad", "(III)Z"⟩
abbrev cX2_addCarrier : ByteArray := prog_4_method_9_code
def yX2_addCarrier : MethodName := ⟨RX2, "addCarrier", "(LOncePerRoad$Carrier;)Z"⟩
abbrev cX2_nicksOf : ByteArray := prog_4_method_10_code
def yX2_nicksOf : MethodName := ⟨RX2, "nicksOf", "(I)I"⟩
abbrev cX2_isFree : ByteArray := prog_4_method_11_code
def yX2_isFree : MethodName := ⟨RX2, "isFree", "(II)Z"⟩
abbrev cX2_addNick : ByteArray := prog_4_method_12_code
def yX2_addNick : MethodName := ⟨RX2, "addNick", "(II)Z"⟩
abbrev cX2_milesOfAll : ByteArray := prog_4_method_13_code
def yX2_milesOfAll : MethodName := ⟨RX2, "milesOfAll", "()I"⟩
abbrev cX2_otherEnd : ByteArray := prog_4_method_14_code
def yX2_otherEnd : MethodName := ⟨RX2, "otherEnd", "(II)I"⟩
abbrev cX2_leastMiles : ByteArray := prog_4_method_15_code
def yX2_leastMiles : MethodName := ⟨RX2, "leastMiles", "(IIII)I"⟩
abbrev cX2_reachAlong : ByteArray := prog_4_method_16_code
def yX2_reachAlong : MethodName := ⟨RX2, "reachAlong", "(III)V"⟩
abbrev cX2_countLeading : ByteArray := prog_4_method_17_code
def yX2_countLeading : MethodName := ⟨RX2, "countLeading", "(I)V"⟩
abbrev cX2_fewestLeading : ByteArray := prog_4_method_18_code
def yX2_fewestLeading : MethodName := ⟨RX2, "fewestLeading", "(IIIII)I"⟩
abbrev cX2_bars : ByteArray := prog_4_method_19_code
def yX2_bars : MethodName := ⟨RX2, "bars", "(II)I"⟩
abbrev cX2_mostServed : ByteArray := prog_4_method_20_code
def yX2_mostServed : MethodName := ⟨RX2, "mostServed", "(II)I"⟩
abbrev cX2_areAllServed : ByteArray := prog_4_method_21_code
def yX2_areAllServed : MethodName := ⟨RX2, "areAllServed", "(II)Z"⟩
def RX3 : String := "OncePerRoad$Mill"
def TX3 : u_T := fun k => match k with
  | 0 => ("OncePerRoad$Carrier", "kind", "I", true)
  | _ => ("OncePerRoad$Carrier", "figure", "I", true)
def tyX3 : Nat → FieldType := fun k => match k with
  | 0 => .int
  | _ => .int
abbrev wsX30 : List Cond := u_ws RX3 TX3 2
theorem nmX3 : ∀ a, a < 2 → ∀ b, b < 2 → a ≠ b → (TX3 a).2.1 ≠ (TX3 b).2.1 := by decide +kernel
theorem tyX3_ok : ∀ k, k < 2 → parseFieldDescriptor (TX3 k).2.2.1 = some (tyX3 k) := by decide +kernel
abbrev cX3_init : ByteArray := prog_5_method_1_code
def yX3_init : MethodName := ⟨RX3, "<init>", "(II)V"⟩
abbrev cX3_loads : ByteArray := prog_5_method_2_code
def yX3_loads : MethodName := ⟨RX3, "loads", "(III)I"⟩
abbrev cX3_pay : ByteArray := prog_5_method_3_code
def yX3_pay : MethodName := ⟨RX3, "pay", "()I"⟩
def RX4 : String := "OncePerRoad$Mixed"
def TX4 : u_T := fun k => match k with
  | 0 => ("OncePerRoad$Carrier", "kind", "I", true)
  | _ => ("OncePerRoad$Carrier", "figure", "I", true)
def tyX4 : Nat → FieldType := fun k => match k with
  | 0 => .int
  | _ => .int
abbrev wsX40 : List Cond := u_ws RX4 TX4 2
theorem nmX4 : ∀ a, a < 2 → ∀ b, b < 2 → a ≠ b → (TX4 a).2.1 ≠ (TX4 b).2.1 := by decide +kernel
theorem tyX4_ok : ∀ k, k < 2 → parseFieldDescriptor (TX4 k).2.2.1 = some (tyX4 k) := by decide +kernel
abbrev cX4_init : ByteArray := prog_6_method_1_code
def yX4_init : MethodName := ⟨RX4, "<init>", "(II)V"⟩
abbrev cX4_loads : ByteArray := prog_6_method_2_code
def yX4_loads : MethodName := ⟨RX4, "loads", "(III)I"⟩
abbrev cX4_weightOf : ByteArray := prog_6_method_3_code
def yX4_weightOf : MethodName := ⟨RX4, "weightOf", "(III)I"⟩
abbrev cX4_pay : ByteArray := prog_6_method_4_code
def yX4_pay : MethodName := ⟨RX4, "pay", "()I"⟩
abbrev cX4_fail : ByteArray := prog_6_method_5_code
def yX4_fail : MethodName := ⟨RX4, "fail", "()V"⟩
def RX5 : String := "OncePerRoad$Near"
def TX5 : u_T := fun k => match k with
  | 0 => ("OncePerRoad$Carrier", "kind", "I", true)
  | _ => ("OncePerRoad$Carrier", "figure", "I", true)
def tyX5 : Nat → FieldType := fun k => match k with
  | 0 => .int
  | _ => .int
abbrev wsX50 : List Cond := u_ws RX5 TX5 2
theorem nmX5 : ∀ a, a < 2 → ∀ b, b < 2 → a ≠ b → (TX5 a).2.1 ≠ (TX5 b).2.1 := by decide +kernel
theorem tyX5_ok : ∀ k, k < 2 → parseFieldDescriptor (TX5 k).2.2.1 = some (tyX5 k) := by decide +kernel
abbrev cX5_init : ByteArray := prog_7_method_1_code
def yX5_init : MethodName := ⟨RX5, "<init>", "(II)V"⟩
abbrev cX5_weightOf : ByteArray := prog_7_method_2_code
def yX5_weightOf : MethodName := ⟨RX5, "weightOf", "(III)I"⟩
abbrev cX5_pay : ByteArray := prog_7_method_3_code
def yX5_pay : MethodName := ⟨RX5, "pay", "()I"⟩
def RX6 : String := "OncePerRoad$Round"
def TX6 : u_T := fun k => match k with
  | 0 => ("OncePerRoad$Carrier", "kind", "I", true)
  | _ => ("OncePerRoad$Carrier", "figure", "I", true)
def tyX6 : Nat → FieldType := fun k => match k with
  | 0 => .int
  | _ => .int
abbrev wsX60 : List Cond := u_ws RX6 TX6 2
theorem nmX6 : ∀ a, a < 2 → ∀ b, b < 2 → a ≠ b → (TX6 a).2.1 ≠ (TX6 b).2.1 := by decide +kernel
theorem tyX6_ok : ∀ k, k < 2 → parseFieldDescriptor (TX6 k).2.2.1 = some (tyX6 k) := by decide +kernel
abbrev cX6_init : ByteArray := prog_8_method_1_code
def yX6_init : MethodName := ⟨RX6, "<init>", "(II)V"⟩
abbrev cX6_weightOf : ByteArray := prog_8_method_2_code
def yX6_weightOf : MethodName := ⟨RX6, "weightOf", "(III)I"⟩
def RX7 : String := "OncePerRoad$Row"
def TX7 : u_T := fun k => match k with
  | 0 => ("OncePerRoad$Row", "cells", "[I", true)
  | 1 => ("OncePerRoad$Row", "sort", "I", false)
  | _ => ("OncePerRoad$Row", "size", "I", false)
def tyX7 : Nat → FieldType := fun k => match k with
  | 0 => .array .int
  | 1 => .int
  | _ => .int
abbrev wsX70 : List Cond := u_ws RX7 TX7 3
theorem nmX7 : ∀ a, a < 3 → ∀ b, b < 3 → a ≠ b → (TX7 a).2.1 ≠ (TX7 b).2.1 := by decide +kernel
theorem tyX7_ok : ∀ k, k < 3 → parseFieldDescriptor (TX7 k).2.2.1 = some (tyX7 k) := by decide +kernel
abbrev cX7_init : ByteArray := prog_9_method_1_code
def yX7_init : MethodName := ⟨RX7, "<init>", "()V"⟩
abbrev cX7_startAnew : ByteArray := prog_9_method_2_code
def yX7_startAnew : MethodName := ⟨RX7, "startAnew", "(II)V"⟩
abbrev cX7_has : ByteArray := prog_9_method_3_code
def yX7_has : MethodName := ⟨RX7, "has", "(I)Z"⟩
abbrev cX7_hasStretch : ByteArray := prog_9_method_4_code
def yX7_hasStretch : MethodName := ⟨RX7, "hasStretch", "(II)Z"⟩
abbrev cX7_cell : ByteArray := prog_9_method_5_code
def yX7_cell : MethodName := ⟨RX7, "cell", "(I)I"⟩
abbrev cX7_set : ByteArray := prog_9_method_6_code
def yX7_set : MethodName := ⟨RX7, "set", "(II)Z"⟩
def RX8 : String := "OncePerRoad$Spare"
def TX8 : u_T := fun k => match k with
  | 0 => ("OncePerRoad$Carrier", "kind", "I", true)
  | _ => ("OncePerRoad$Carrier", "figure", "I", true)
def tyX8 : Nat → FieldType := fun k => match k with
  | 0 => .int
  | _ => .int
abbrev wsX80 : List Cond := u_ws RX8 TX8 2
theorem nmX8 : ∀ a, a < 2 → ∀ b, b < 2 → a ≠ b → (TX8 a).2.1 ≠ (TX8 b).2.1 := by decide +kernel
theorem tyX8_ok : ∀ k, k < 2 → parseFieldDescriptor (TX8 k).2.2.1 = some (tyX8 k) := by decide +kernel
abbrev cX8_init : ByteArray := prog_10_method_1_code
def yX8_init : MethodName := ⟨RX8, "<init>", "(II)V"⟩
abbrev cX8_weightOf : ByteArray := prog_10_method_2_code
def yX8_weightOf : MethodName := ⟨RX8, "weightOf", "(III)I"⟩
abbrev cX8_pay : ByteArray := prog_10_method_3_code
def yX8_pay : MethodName := ⟨RX8, "pay", "()I"⟩
abbrev cX8_fail : ByteArray := prog_10_method_4_code
def yX8_fail : MethodName := ⟨RX8, "fail", "()V"⟩
def RX9 : String := "OncePerRoad$Told"
def TX9 : u_T := fun k => match k with
  | 0 => ("OncePerRoad$Carrier", "kind", "I", true)
  | _ => ("OncePerRoad$Carrier", "figure", "I", true)
def tyX9 : Nat → FieldType := fun k => match k with
  | 0 => .int
  | _ => .int
abbrev wsX90 : List Cond := u_ws RX9 TX9 2
theorem nmX9 : ∀ a, a < 2 → ∀ b, b < 2 → a ≠ b → (TX9 a).2.1 ≠ (TX9 b).2.1 := by decide +kernel
theorem tyX9_ok : ∀ k, k < 2 → parseFieldDescriptor (TX9 k).2.2.1 = some (tyX9 k) := by decide +kernel
abbrev cX9_init : ByteArray := prog_11_method_1_code
def yX9_init : MethodName := ⟨RX9, "<init>", "(II)V"⟩
abbrev cX9_mostRoads : ByteArray := prog_11_method_2_code
def yX9_mostRoads : MethodName := ⟨RX9, "mostRoads", "()I"⟩
abbrev cX9_pay : ByteArray := prog_11_method_3_code
def yX9_pay : MethodName := ⟨RX9, "pay", "()I"⟩
def RX10 : String := "OncePerRoad$Way"
def TX10 : u_T := fun k => match k with
  | 0 => ("OncePerRoad$Way", "roads", "[I", true)
  | 1 => ("OncePerRoad$Way", "tried", "[I", true)
  | 2 => ("OncePerRoad$Way", "size", "I", false)
  | 3 => ("OncePerRoad$Way", "weight", "I", false)
  | 4 => ("OncePerRoad$Way", "land", "LOncePerRoad$Land;", false)
  | 5 => ("OncePerRoad$Way", "carrier", "LOncePerRoad$Carrier;", false)
  | 6 => ("OncePerRoad$Way", "good", "I", false)
  | 7 => ("OncePerRoad$Way", "start", "I", false)
  | _ => ("OncePerRoad$Way", "goal", "I", false)
def tyX10 : Nat → FieldType := fun k => match k with
  | 0 => .array .int
  | 1 => .array .int
  | 2 => .int
  | 3 => .int
  | 4 => .object "OncePerRoad$Land"
  | 5 => .object "OncePerRoad$Carrier"
  | 6 => .int
  | 7 => .int
  | _ => .int
abbrev wsX100 : List Cond := u_ws RX10 TX10 9
theorem nmX10 : ∀ a, a < 9 → ∀ b, b < 9 → a ≠ b → (TX10 a).2.1 ≠ (TX10 b).2.1 := by decide +kernel
theorem tyX10_ok : ∀ k, k < 9 → parseFieldDescriptor (TX10 k).2.2.1 = some (tyX10 k) := by decide +kernel
abbrev cX10_init : ByteArray := prog_12_method_1_code
def yX10_init : MethodName := ⟨RX10, "<init>", "()V"⟩
abbrev cX10_find : ByteArray := prog_12_method_2_code
def yX10_find : MethodName := ⟨RX10, "find", "(LOncePerRoad$Land;IIII)Z"⟩
abbrev cX10_extend : ByteArray := prog_12_method_3_code
def yX10_extend : MethodName := ⟨RX10, "extend", "(IIII)V"⟩
abbrev cX10_length : ByteArray := prog_12_method_4_code
def yX10_length : MethodName := ⟨RX10, "length", "()I"⟩
abbrev cX10_leaveNicks : ByteArray := prog_12_method_5_code
def yX10_leaveNicks : MethodName := ⟨RX10, "leaveNicks", "()V"⟩
def RX11 : String := "OncePerRoad"
def TX11 : u_T := fun k => match k with
  | 0 => ("OncePerRoad", "now", "LOncePerRoad$Land;", true)
  | 1 => ("OncePerRoad", "mind", "LOncePerRoad$Land;", true)
  | 2 => ("OncePerRoad", "pictured", "LOncePerRoad$Land;", true)
  | 3 => ("OncePerRoad", "isPictured", "Z", false)
  | 4 => ("OncePerRoad", "trip", "LOncePerRoad$Way;", true)
  | 5 => ("OncePerRoad", "holds", "[I", true)
  | 6 => ("OncePerRoad", "kept", "[LOncePerRoad$Carrier;", true)
  | 7 => ("OncePerRoad", "rows", "[LOncePerRoad$Row;", true)
  | _ => ("OncePerRoad", "leastMilesOfOrders", "I", false)
def tyX11 : Nat → FieldType := fun k => match k with
  | 0 => .object "OncePerRoad$Land"
  | 1 => .object "OncePerRoad$Land"
  | 2 => .object "OncePerRoad$Land"
  | 3 => .boolean
  | 4 => .object "OncePerRoad$Way"
  | 5 => .array .int
  | 6 => .array (.object "OncePerRoad$Carrier")
  | 7 => .array (.object "OncePerRoad$Row")
  | _ => .int
abbrev wsX110 : List Cond := u_ws RX11 TX11 9
theorem nmX11 : ∀ a, a < 9 → ∀ b, b < 9 → a ≠ b → (TX11 a).2.1 ≠ (TX11 b).2.1 := by decide +kernel
theorem tyX11_ok : ∀ k, k < 9 → parseFieldDescriptor (TX11 k).2.2.1 = some (tyX11 k) := by decide +kernel
abbrev cX11_init : ByteArray := prog_1_method_1_code
def yX11_init : MethodName := ⟨RX11, "<init>", "()V"⟩
abbrev cX11_land : ByteArray := prog_1_method_2_code
def yX11_land : MethodName := ⟨RX11, "land", "(I)I"⟩
abbrev cX11_road : ByteArray := prog_1_method_3_code
def yX11_road : MethodName := ⟨RX11, "road", "(II)I"⟩
abbrev cX11_carrier : ByteArray := prog_1_method_4_code
def yX11_carrier : MethodName := ⟨RX11, "carrier", "(II)I"⟩
abbrev cX11_hires : ByteArray := prog_1_method_5_code
def yX11_hires : MethodName := ⟨RX11, "hires", "(I)I"⟩
abbrev cX11_nick : ByteArray := prog_1_method_6_code
def yX11_nick : MethodName := ⟨RX11, "nick", "(III)I"⟩
abbrev cX11_way : ByteArray := prog_1_method_7_code
def yX11_way : MethodName := ⟨RX11, "way", "(IIIII)I"⟩
abbrev cX11_step : ByteArray := prog_1_method_8_code
def yX11_step : MethodName := ⟨RX11, "step", "(IIIII)I"⟩
abbrev cX11_go : ByteArray := prog_1_method_9_code
def yX11_go : MethodName := ⟨RX11, "go", "(IIII)I"⟩
abbrev cX11_far : ByteArray := prog_1_method_10_code
def yX11_far : MethodName := ⟨RX11, "far", "(III)I"⟩
abbrev cX11_many : ByteArray := prog_1_method_11_code
def yX11_many : MethodName := ⟨RX11, "many", "(IIII)I"⟩
abbrev cX11_served : ByteArray := prog_1_method_12_code
def yX11_served : MethodName := ⟨RX11, "served", "(IIII)I"⟩
abbrev cX11_spite : ByteArray := prog_1_method_13_code
def yX11_spite : MethodName := ⟨RX11, "spite", "(IIII)I"⟩
abbrev cX11_worth : ByteArray := prog_1_method_14_code
def yX11_worth : MethodName := ⟨RX11, "worth", "(IIII)I"⟩
abbrev cX11_newly : ByteArray := prog_1_method_15_code
def yX11_newly : MethodName := ⟨RX11, "newly", "(IIII)I"⟩
abbrev cX11_round : ByteArray := prog_1_method_16_code
def yX11_round : MethodName := ⟨RX11, "round", "(II)I"⟩
abbrev cX11_often : ByteArray := prog_1_method_17_code
def yX11_often : MethodName := ⟨RX11, "often", "(IIII)I"⟩
abbrev cX11_run : ByteArray := prog_1_method_18_code
def yX11_run : MethodName := ⟨RX11, "run", "(II)I"⟩
abbrev cX11_orders : ByteArray := prog_1_method_19_code
def yX11_orders : MethodName := ⟨RX11, "orders", "(II)I"⟩
abbrev cX11_seeded : ByteArray := prog_1_method_20_code
def yX11_seeded : MethodName := ⟨RX11, "seeded", "(II)I"⟩
abbrev cX11_judge : ByteArray := prog_1_method_21_code
def yX11_judge : MethodName := ⟨RX11, "judge", "(I)I"⟩
abbrev cX11_image : ByteArray := prog_1_method_22_code
def yX11_image : MethodName := ⟨RX11, "image", "()I"⟩
abbrev cX11_restore : ByteArray := prog_1_method_23_code
def yX11_restore : MethodName := ⟨RX11, "restore", "()I"⟩
abbrev cX11_count : ByteArray := prog_1_method_24_code
def yX11_count : MethodName := ⟨RX11, "count", "(I)I"⟩
abbrev cX11_keep : ByteArray := prog_1_method_25_code
def yX11_keep : MethodName := ⟨RX11, "keep", "(IIII)I"⟩
abbrev cX11_row : ByteArray := prog_1_method_26_code
def yX11_row : MethodName := ⟨RX11, "row", "(III)I"⟩
abbrev cX11_put : ByteArray := prog_1_method_27_code
def yX11_put : MethodName := ⟨RX11, "put", "(III)I"⟩
abbrev cX11_element : ByteArray := prog_1_method_28_code
def yX11_element : MethodName := ⟨RX11, "element", "(II)J"⟩
abbrev cX11_copy : ByteArray := prog_1_method_29_code
def yX11_copy : MethodName := ⟨RX11, "copy", "(IIIII)I"⟩
abbrev cX11_wage : ByteArray := prog_1_method_30_code
def yX11_wage : MethodName := ⟨RX11, "wage", "(I)I"⟩
abbrev cX11_toss : ByteArray := prog_1_method_31_code
def yX11_toss : MethodName := ⟨RX11, "toss", "(I)I"⟩
abbrev cX11_isOneOf : ByteArray := prog_1_method_32_code
def yX11_isOneOf : MethodName := ⟨RX11, "isOneOf", "(II)Z"⟩
abbrev cX11_contains : ByteArray := prog_1_method_33_code
def yX11_contains : MethodName := ⟨RX11, "contains", "(II)Z"⟩
abbrev cX11_nickOf : ByteArray := prog_1_method_34_code
def yX11_nickOf : MethodName := ⟨RX11, "nickOf", "(II)J"⟩
abbrev cX11_isErrand : ByteArray := prog_1_method_35_code
def yX11_isErrand : MethodName := ⟨RX11, "isErrand", "(III)Z"⟩
abbrev cX11_isCarriage : ByteArray := prog_1_method_36_code
def yX11_isCarriage : MethodName := ⟨RX11, "isCarriage", "(LOncePerRoad$Land;IIII)Z"⟩
abbrev cX11_rowRefusal : ByteArray := prog_1_method_37_code
def yX11_rowRefusal : MethodName := ⟨RX11, "rowRefusal", "(IZ)I"⟩
abbrev cX11_carrierRefusal : ByteArray := prog_1_method_38_code
def yX11_carrierRefusal : MethodName := ⟨RX11, "carrierRefusal", "(I)I"⟩
abbrev cX11_carriagesRefusal : ByteArray := prog_1_method_39_code
def yX11_carriagesRefusal : MethodName := ⟨RX11, "carriagesRefusal", "(II)I"⟩
abbrev cX11_milesGone : ByteArray := prog_1_method_40_code
def yX11_milesGone : MethodName := ⟨RX11, "milesGone", "(LOncePerRoad$Land;IIII)I"⟩
abbrev cX11_milesOfCarriage : ByteArray := prog_1_method_41_code
def yX11_milesOfCarriage : MethodName := ⟨RX11, "milesOfCarriage", "(LOncePerRoad$Row;I)I"⟩
abbrev cX11_ordersOfAll : ByteArray := prog_1_method_42_code
def yX11_ordersOfAll : MethodName := ⟨RX11, "ordersOfAll", "(LOncePerRoad$Row;III)I"⟩
abbrev cX11_nextSeed : ByteArray := prog_1_method_43_code
def yX11_nextSeed : MethodName := ⟨RX11, "nextSeed", "(I)I"⟩
abbrev cX11_draw : ByteArray := prog_1_method_44_code
def yX11_draw : MethodName := ⟨RX11, "draw", "(II)I"⟩
abbrev cX11_digitsBehind : ByteArray := prog_1_method_45_code
def yX11_digitsBehind : MethodName := ⟨RX11, "digitsBehind", "(I)I"⟩
abbrev cX11_firstBrokenByte : ByteArray := prog_1_method_46_code
def yX11_firstBrokenByte : MethodName := ⟨RX11, "firstBrokenByte", "(LOncePerRoad$Row;)I"⟩
abbrev cX11_applyStatement : ByteArray := prog_1_method_47_code
def yX11_applyStatement : MethodName := ⟨RX11, "applyStatement", "(LOncePerRoad$Row;I)Z"⟩
abbrev cX11_carrierOf : ByteArray := prog_1_method_48_code
def yX11_carrierOf : MethodName := ⟨RX11, "carrierOf", "(II)LOncePerRoad$Carrier;"⟩
def RX12 : String := "OncePerRoadModel"
def TX12 : u_T := fun k => match k with
  | 0 => ("OncePerRoadModel", "s", "[I", true)
  | 1 => ("OncePerRoadModel", "image", "[I", true)
  | 2 => ("OncePerRoadModel", "read", "[I", true)
  | 3 => ("OncePerRoadModel", "mind", "[I", true)
  | 4 => ("OncePerRoadModel", "kept", "[I", true)
  | 5 => ("OncePerRoadModel", "sort", "[I", true)
  | 6 => ("OncePerRoadModel", "size", "[I", true)
  | 7 => ("OncePerRoadModel", "element", "[I", true)
  | 8 => ("OncePerRoadModel", "keptKind", "[I", true)
  | 9 => ("OncePerRoadModel", "keptFigure", "[I", true)
  | 10 => ("OncePerRoadModel", "hasImage", "Z", false)
  | 11 => ("OncePerRoadModel", "thrown", "I", false)
  | 12 => ("OncePerRoadModel", "tried", "[I", true)
  | 13 => ("OncePerRoadModel", "way", "[I", true)
  | 14 => ("OncePerRoadModel", "wayLoads", "[I", true)
  | 15 => ("OncePerRoadModel", "triedLoads", "[I", true)
  | 16 => ("OncePerRoadModel", "wayWeight", "I", false)
  | 17 => ("OncePerRoadModel", "wayLong", "I", false)
  | 18 => ("OncePerRoadModel", "wayMiles", "I", false)
  | 19 => ("OncePerRoadModel", "pos", "I", false)
  | 20 => ("OncePerRoadModel", "base", "I", false)
  | 21 => ("OncePerRoadModel", "end", "I", false)
  | 22 => ("OncePerRoadModel", "numbers", "[I", true)
  | 23 => ("OncePerRoadModel", "miles", "[I", true)
  | 24 => ("OncePerRoadModel", "barSet", "I", false)
  | 25 => ("OncePerRoadModel", "leastRound", "I", false)
  | 26 => ("OncePerRoadModel", "line", "[I", true)
  | 27 => ("OncePerRoadModel", "orders", "I", false)
  | 28 => ("OncePerRoadModel", "leastMiles", "I", false)
  | _ => ("OncePerRoadModel", "seed", "I", false)
def tyX12 : Nat → FieldType := fun k => match k with
  | 0 => .array .int
  | 1 => .array .int
  | 2 => .array .int
  | 3 => .array .int
  | 4 => .array .int
  | 5 => .array .int
  | 6 => .array .int
  | 7 => .array .int
  | 8 => .array .int
  | 9 => .array .int
  | 10 => .boolean
  | 11 => .int
  | 12 => .array .int
  | 13 => .array .int
  | 14 => .array .int
  | 15 => .array .int
  | 16 => .int
  | 17 => .int
  | 18 => .int
  | 19 => .int
  | 20 => .int
  | 21 => .int
  | 22 => .array .int
  | 23 => .array .int
  | 24 => .int
  | 25 => .int
  | 26 => .array .int
  | 27 => .int
  | 28 => .int
  | _ => .int
abbrev wsX120 : List Cond := u_ws RX12 TX12 30
theorem nmX12 : ∀ a, a < 30 → ∀ b, b < 30 → a ≠ b → (TX12 a).2.1 ≠ (TX12 b).2.1 := by decide +kernel
theorem tyX12_ok : ∀ k, k < 30 → parseFieldDescriptor (TX12 k).2.2.1 = some (tyX12 k) := by decide +kernel
abbrev cX12_init : ByteArray := prog_14_method_1_code
def yX12_init : MethodName := ⟨RX12, "<init>", "()V"⟩
abbrev cX12_thrown : ByteArray := prog_14_method_2_code
def yX12_thrown : MethodName := ⟨RX12, "thrown", "()I"⟩
abbrev cX12_isIn : ByteArray := prog_14_method_3_code
def yX12_isIn : MethodName := ⟨RX12, "isIn", "(JJJ)Z"⟩
abbrev cX12_isShelf : ByteArray := prog_14_method_4_code
def yX12_isShelf : MethodName := ⟨RX12, "isShelf", "(I)Z"⟩
abbrev cX12_isPlace : ByteArray := prog_14_method_5_code
def yX12_isPlace : MethodName := ⟨RX12, "isPlace", "(I)Z"⟩
abbrev cX12_isRoad : ByteArray := prog_14_method_6_code
def yX12_isRoad : MethodName := ⟨RX12, "isRoad", "(I)Z"⟩
abbrev cX12_isCarrier : ByteArray := prog_14_method_7_code
def yX12_isCarrier : MethodName := ⟨RX12, "isCarrier", "(I)Z"⟩
abbrev cX12_isGood : ByteArray := prog_14_method_8_code
def yX12_isGood : MethodName := ⟨RX12, "isGood", "(I)Z"⟩
abbrev cX12_areTwo : ByteArray := prog_14_method_9_code
def yX12_areTwo : MethodName := ⟨RX12, "areTwo", "(II)Z"⟩
abbrev cX12_get : ByteArray := prog_14_method_10_code
def yX12_get : MethodName := ⟨RX12, "get", "(II)I"⟩
abbrev cX12_puts : ByteArray := prog_14_method_11_code
def yX12_puts : MethodName := ⟨RX12, "puts", "(III)V"⟩
abbrev cX12_kind : ByteArray := prog_14_method_12_code
def yX12_kind : MethodName := ⟨RX12, "kind", "(I)I"⟩
abbrev cX12_figure : ByteArray := prog_14_method_13_code
def yX12_figure : MethodName := ⟨RX12, "figure", "(I)I"⟩
abbrev cX12_lays : ByteArray := prog_14_method_14_code
def yX12_lays : MethodName := ⟨RX12, "lays", "([I[I)V"⟩
abbrev cX12_begins : ByteArray := prog_14_method_15_code
def yX12_begins : MethodName := ⟨RX12, "begins", "()V"⟩
abbrev cX12_ends : ByteArray := prog_14_method_16_code
def yX12_ends : MethodName := ⟨RX12, "ends", "()V"⟩
abbrev cX12_bits : ByteArray := prog_14_method_17_code
def yX12_bits : MethodName := ⟨RX12, "bits", "(I)I"⟩
abbrev cX12_to : ByteArray := prog_14_method_18_code
def yX12_to : MethodName := ⟨RX12, "to", "(II)I"⟩
abbrev cX12_isFree : ByteArray := prog_14_method_19_code
def yX12_isFree : MethodName := ⟨RX12, "isFree", "(II)Z"⟩
abbrev cX12_loads : ByteArray := prog_14_method_20_code
def yX12_loads : MethodName := ⟨RX12, "loads", "(IIII)I"⟩
abbrev cX12_weightOf : ByteArray := prog_14_method_21_code
def yX12_weightOf : MethodName := ⟨RX12, "weightOf", "(III)I"⟩
abbrev cX12_tries : ByteArray := prog_14_method_22_code
def yX12_tries : MethodName := ⟨RX12, "tries", "(IIIIIIII)V"⟩
abbrev cX12_findsWay : ByteArray := prog_14_method_23_code
def yX12_findsWay : MethodName := ⟨RX12, "findsWay", "(IIII)Z"⟩
abbrev cX12_goes : ByteArray := prog_14_method_24_code
def yX12_goes : MethodName := ⟨RX12, "goes", "(IIII)Z"⟩
abbrev cX12_here : ByteArray := prog_14_method_25_code
def yX12_here : MethodName := ⟨RX12, "here", "()I"⟩
abbrev cX12_readsDigits : ByteArray := prog_14_method_26_code
def yX12_readsDigits : MethodName := ⟨RX12, "readsDigits", "(I)Z"⟩
abbrev cX12_readsStatement : ByteArray := prog_14_method_27_code
def yX12_readsStatement : MethodName := ⟨RX12, "readsStatement", "()Z"⟩
abbrev cX12_adds : ByteArray := prog_14_method_28_code
def yX12_adds : MethodName := ⟨RX12, "adds", "(II)Z"⟩
abbrev cX12_layRoad : ByteArray := prog_14_method_29_code
def yX12_layRoad : MethodName := ⟨RX12, "layRoad", "(III)V"⟩
abbrev cX12_comesTold : ByteArray := prog_14_method_30_code
def yX12_comesTold : MethodName := ⟨RX12, "comesTold", "(I)Z"⟩
abbrev cX12_wrongRow : ByteArray := prog_14_method_31_code
def yX12_wrongRow : MethodName := ⟨RX12, "wrongRow", "(II)I"⟩
abbrev cX12_land : ByteArray := prog_14_method_32_code
def yX12_land : MethodName := ⟨RX12, "land", "(I)I"⟩
abbrev cX12_road : ByteArray := prog_14_method_33_code
def yX12_road : MethodName := ⟨RX12, "road", "(II)I"⟩
abbrev cX12_carrier : ByteArray := prog_14_method_34_code
def yX12_carrier : MethodName := ⟨RX12, "carrier", "(II)I"⟩
abbrev cX12_wrongKept : ByteArray := prog_14_method_35_code
def yX12_wrongKept : MethodName := ⟨RX12, "wrongKept", "(I)I"⟩
abbrev cX12_hires : ByteArray := prog_14_method_36_code
def yX12_hires : MethodName := ⟨RX12, "hires", "(I)I"⟩
abbrev cX12_nick : ByteArray := prog_14_method_37_code
def yX12_nick : MethodName := ⟨RX12, "nick", "(III)I"⟩
abbrev cX12_isAsked : ByteArray := prog_14_method_38_code
def yX12_isAsked : MethodName := ⟨RX12, "isAsked", "(IIII)Z"⟩
abbrev cX12_way : ByteArray := prog_14_method_39_code
def yX12_way : MethodName := ⟨RX12, "way", "(IIIII)I"⟩
abbrev cX12_step : ByteArray := prog_14_method_40_code
def yX12_step : MethodName := ⟨RX12, "step", "(IIIII)I"⟩
abbrev cX12_go : ByteArray := prog_14_method_41_code
def yX12_go : MethodName := ⟨RX12, "go", "(IIII)I"⟩
abbrev cX12_farOf : ByteArray := prog_14_method_42_code
def yX12_farOf : MethodName := ⟨RX12, "farOf", "(III)I"⟩
abbrev cX12_isGoodWay : ByteArray := prog_14_method_43_code
def yX12_isGoodWay : MethodName := ⟨RX12, "isGoodWay", "(III)Z"⟩
abbrev cX12_far : ByteArray := prog_14_method_44_code
def yX12_far : MethodName := ⟨RX12, "far", "(III)I"⟩
abbrev cX12_leads : ByteArray := prog_14_method_45_code
def yX12_leads : MethodName := ⟨RX12, "leads", "(III)I"⟩
abbrev cX12_manyOf : ByteArray := prog_14_method_46_code
def yX12_manyOf : MethodName := ⟨RX12, "manyOf", "(IIII)I"⟩
abbrev cX12_many : ByteArray := prog_14_method_47_code
def yX12_many : MethodName := ⟨RX12, "many", "(IIII)I"⟩
abbrev cX12_canServe : ByteArray := prog_14_method_48_code
def yX12_canServe : MethodName := ⟨RX12, "canServe", "(III)Z"⟩
abbrev cX12_served : ByteArray := prog_14_method_49_code
def yX12_served : MethodName := ⟨RX12, "served", "(IIII)I"⟩
abbrev cX12_spite : ByteArray := prog_14_method_50_code
def yX12_spite : MethodName := ⟨RX12, "spite", "(IIII)I"⟩
abbrev cX12_worth : ByteArray := prog_14_method_51_code
def yX12_worth : MethodName := ⟨RX12, "worth", "(IIII)I"⟩
abbrev cX12_newly : ByteArray := prog_14_method_52_code
def yX12_newly : MethodName := ⟨RX12, "newly", "(IIII)I"⟩
abbrev cX12_roundFrom : ByteArray := prog_14_method_53_code
def yX12_roundFrom : MethodName := ⟨RX12, "roundFrom", "(IIIIII)V"⟩
abbrev cX12_round : ByteArray := prog_14_method_54_code
def yX12_round : MethodName := ⟨RX12, "round", "(II)I"⟩
abbrev cX12_often : ByteArray := prog_14_method_55_code
def yX12_often : MethodName := ⟨RX12, "often", "(IIII)I"⟩
abbrev cX12_wrongCarriages : ByteArray := prog_14_method_56_code
def yX12_wrongCarriages : MethodName := ⟨RX12, "wrongCarriages", "(I)I"⟩
abbrev cX12_told : ByteArray := prog_14_method_57_code
def yX12_told : MethodName := ⟨RX12, "told", "(II)I"⟩
abbrev cX12_goesTold : ByteArray := prog_14_method_58_code
def yX12_goesTold : MethodName := ⟨RX12, "goesTold", "(II)Z"⟩
abbrev cX12_wrongAsk : ByteArray := prog_14_method_59_code
def yX12_wrongAsk : MethodName := ⟨RX12, "wrongAsk", "(II)I"⟩
abbrev cX12_run : ByteArray := prog_14_method_60_code
def yX12_run : MethodName := ⟨RX12, "run", "(II)I"⟩
abbrev cX12_goesBy : ByteArray := prog_14_method_61_code
def yX12_goesBy : MethodName := ⟨RX12, "goesBy", "(I)V"⟩
abbrev cX12_ordersFrom : ByteArray := prog_14_method_62_code
def yX12_ordersFrom : MethodName := ⟨RX12, "ordersFrom", "(III)V"⟩
abbrev cX12_orders : ByteArray := prog_14_method_63_code
def yX12_orders : MethodName := ⟨RX12, "orders", "(II)I"⟩
abbrev cX12_drawn : ByteArray := prog_14_method_64_code
def yX12_drawn : MethodName := ⟨RX12, "drawn", "(I)I"⟩
abbrev cX12_seeded : ByteArray := prog_14_method_65_code
def yX12_seeded : MethodName := ⟨RX12, "seeded", "(II)I"⟩
abbrev cX12_wrongTwo : ByteArray := prog_14_method_66_code
def yX12_wrongTwo : MethodName := ⟨RX12, "wrongTwo", "(II)I"⟩
abbrev cX12_judge : ByteArray := prog_14_method_67_code
def yX12_judge : MethodName := ⟨RX12, "judge", "(I)I"⟩
abbrev cX12_image : ByteArray := prog_14_method_68_code
def yX12_image : MethodName := ⟨RX12, "image", "()I"⟩
abbrev cX12_restore : ByteArray := prog_14_method_69_code
def yX12_restore : MethodName := ⟨RX12, "restore", "()I"⟩
abbrev cX12_count : ByteArray := prog_14_method_70_code
def yX12_count : MethodName := ⟨RX12, "count", "(I)I"⟩
abbrev cX12_wageBy : ByteArray := prog_14_method_71_code
def yX12_wageBy : MethodName := ⟨RX12, "wageBy", "(II)I"⟩
abbrev cX12_keep : ByteArray := prog_14_method_72_code
def yX12_keep : MethodName := ⟨RX12, "keep", "(IIII)I"⟩
abbrev cX12_row : ByteArray := prog_14_method_73_code
def yX12_row : MethodName := ⟨RX12, "row", "(III)I"⟩
abbrev cX12_put : ByteArray := prog_14_method_74_code
def yX12_put : MethodName := ⟨RX12, "put", "(III)I"⟩
abbrev cX12_element : ByteArray := prog_14_method_75_code
def yX12_element : MethodName := ⟨RX12, "element", "(II)J"⟩
abbrev cX12_copy : ByteArray := prog_14_method_76_code
def yX12_copy : MethodName := ⟨RX12, "copy", "(IIIII)I"⟩
abbrev cX12_wage : ByteArray := prog_14_method_77_code
def yX12_wage : MethodName := ⟨RX12, "wage", "(I)I"⟩
abbrev cX12_toss : ByteArray := prog_14_method_78_code
def yX12_toss : MethodName := ⟨RX12, "toss", "(I)I"⟩
def RJ6 : String := "java/lang/Integer"
abbrev cJ6_bitCount_0f7a4 : ByteArray := prog_18_method_49_code
def yJ6_bitCount_0f7a4 : MethodName := ⟨RJ6, "bitCount", "(I)I"⟩
def RJ13 : String := "java/lang/Long"
abbrev cJ13_bitCount_95d88 : ByteArray := prog_19_method_50_code
def yJ13_bitCount_95d88 : MethodName := ⟨RJ13, "bitCount", "(J)I"⟩
def RJ0 : String := "java/lang/String"
def RJ10 : String := "java/lang/System"
def RL : String := "OncePerRoadLaw"
abbrev cL_element : ByteArray := method_3_code
def yL_element : MethodName := ⟨RL, "element", "(LOncePerRoad;II[J)I"⟩
abbrev cL_law : ByteArray := code
def yL_law : MethodName := ⟨RL, "law", "([I)Z"⟩
abbrev vwCl : List vw_C := [(RX0, TX0, 2), (RX1, TX1, 2), (RX2, TX2, 10), (RX3, TX3, 2), (RX4, TX4, 2), (RX5, TX5, 2), (RX6, TX6, 2), (RX7, TX7, 3), (RX8, TX8, 2), (RX9, TX9, 2), (RX10, TX10, 9), (RX11, TX11, 9), (RX12, TX12, 30)]
