section
-- ===== PART A: goes FIRST, ahead of the names: the tables' words, and 'selects' of the private methods out of them =====
/-- a private method of a class that the tables say can be made, by its rows of tables_1 -/
def lw_okq (q : MethodName × Nat) : Prop := (q.1.cls ≠ "java/lang/invoke/MethodHandle" ∧ q.1.cls ≠ "java/lang/invoke/VarHandle") ∧ Cond.instantiable q.1.cls q.2 ∈ tables_1 ∧ Cond.privateMethod q.1 ∈ tables_1 ∧ Cond.instanceMethod q.1 ∈ tables_1
theorem lw_p0 : lw_okq (⟨"OncePerRoad", "rowRefusal", "(IZ)I"⟩, 9) := ⟨⟨by decide +kernel, by decide +kernel⟩, List.mem_of_getElem? (i := 24) (by decide +kernel), List.mem_of_getElem? (i := 173) (by decide +kernel), List.mem_of_getElem? (i := 174) (by decide +kernel)⟩
theorem lw_p1 : lw_okq (⟨"OncePerRoad", "applyStatement", "(LOncePerRoad$Row;I)Z"⟩, 9) := ⟨⟨by decide +kernel, by decide +kernel⟩, List.mem_of_getElem? (i := 24) (by decide +kernel), List.mem_of_getElem? (i := 201) (by decide +kernel), List.mem_of_getElem? (i := 202) (by decide +kernel)⟩
theorem lw_p2 : lw_okq (⟨"OncePerRoad", "milesGone", "(LOncePerRoad$Land;IIII)I"⟩, 9) := ⟨⟨by decide +kernel, by decide +kernel⟩, List.mem_of_getElem? (i := 24) (by decide +kernel), List.mem_of_getElem? (i := 341) (by decide +kernel), List.mem_of_getElem? (i := 342) (by decide +kernel)⟩
theorem lw_p3 : lw_okq (⟨"OncePerRoad$Way", "extend", "(IIII)V"⟩, 9) := ⟨⟨by decide +kernel, by decide +kernel⟩, List.mem_of_getElem? (i := 83) (by decide +kernel), List.mem_of_getElem? (i := 350) (by decide +kernel), List.mem_of_getElem? (i := 351) (by decide +kernel)⟩
theorem lw_p4 : lw_okq (⟨"OncePerRoad", "carrierRefusal", "(I)I"⟩, 9) := ⟨⟨by decide +kernel, by decide +kernel⟩, List.mem_of_getElem? (i := 24) (by decide +kernel), List.mem_of_getElem? (i := 479) (by decide +kernel), List.mem_of_getElem? (i := 480) (by decide +kernel)⟩
theorem lw_p5 : lw_okq (⟨"OncePerRoad", "isErrand", "(III)Z"⟩, 9) := ⟨⟨by decide +kernel, by decide +kernel⟩, List.mem_of_getElem? (i := 24) (by decide +kernel), List.mem_of_getElem? (i := 505) (by decide +kernel), List.mem_of_getElem? (i := 506) (by decide +kernel)⟩
theorem lw_p6 : lw_okq (⟨"OncePerRoad$Land", "reachAlong", "(III)V"⟩, 10) := ⟨⟨by decide +kernel, by decide +kernel⟩, List.mem_of_getElem? (i := 32) (by decide +kernel), List.mem_of_getElem? (i := 513) (by decide +kernel), List.mem_of_getElem? (i := 514) (by decide +kernel)⟩
theorem lw_p7 : lw_okq (⟨"OncePerRoad$Land", "areAllServed", "(II)Z"⟩, 10) := ⟨⟨by decide +kernel, by decide +kernel⟩, List.mem_of_getElem? (i := 32) (by decide +kernel), List.mem_of_getElem? (i := 545) (by decide +kernel), List.mem_of_getElem? (i := 546) (by decide +kernel)⟩
theorem lw_p8 : lw_okq (⟨"OncePerRoad", "carriagesRefusal", "(II)I"⟩, 9) := ⟨⟨by decide +kernel, by decide +kernel⟩, List.mem_of_getElem? (i := 24) (by decide +kernel), List.mem_of_getElem? (i := 575) (by decide +kernel), List.mem_of_getElem? (i := 576) (by decide +kernel)⟩
theorem lw_p9 : lw_okq (⟨"OncePerRoad", "milesOfCarriage", "(LOncePerRoad$Row;I)I"⟩, 9) := ⟨⟨by decide +kernel, by decide +kernel⟩, List.mem_of_getElem? (i := 24) (by decide +kernel), List.mem_of_getElem? (i := 579) (by decide +kernel), List.mem_of_getElem? (i := 580) (by decide +kernel)⟩
theorem lw_p10 : lw_okq (⟨"OncePerRoad", "ordersOfAll", "(LOncePerRoad$Row;III)I"⟩, 9) := ⟨⟨by decide +kernel, by decide +kernel⟩, List.mem_of_getElem? (i := 24) (by decide +kernel), List.mem_of_getElem? (i := 587) (by decide +kernel), List.mem_of_getElem? (i := 588) (by decide +kernel)⟩
theorem lw_p11 : lw_okq (⟨"java/lang/Throwable", "fillInStackTrace", "(I)Ljava/lang/Throwable;"⟩, 6) := ⟨⟨by decide +kernel, by decide +kernel⟩, List.mem_of_getElem? (i := 748) (by decide +kernel), List.mem_of_getElem? (i := 746) (by decide +kernel), List.mem_of_getElem? (i := 747) (by decide +kernel)⟩
theorem lw_p12 : lw_okq (⟨"OncePerRoadModel", "wrongRow", "(II)I"⟩, 30) := ⟨⟨by decide +kernel, by decide +kernel⟩, List.mem_of_getElem? (i := 831) (by decide +kernel), List.mem_of_getElem? (i := 936) (by decide +kernel), List.mem_of_getElem? (i := 937) (by decide +kernel)⟩
theorem lw_p13 : lw_okq (⟨"OncePerRoadModel", "readsStatement", "()Z"⟩, 30) := ⟨⟨by decide +kernel, by decide +kernel⟩, List.mem_of_getElem? (i := 831) (by decide +kernel), List.mem_of_getElem? (i := 947) (by decide +kernel), List.mem_of_getElem? (i := 948) (by decide +kernel)⟩
theorem lw_p14 : lw_okq (⟨"OncePerRoadModel", "here", "()I"⟩, 30) := ⟨⟨by decide +kernel, by decide +kernel⟩, List.mem_of_getElem? (i := 831) (by decide +kernel), List.mem_of_getElem? (i := 951) (by decide +kernel), List.mem_of_getElem? (i := 952) (by decide +kernel)⟩
theorem lw_p15 : lw_okq (⟨"OncePerRoadModel", "readsDigits", "(I)Z"⟩, 30) := ⟨⟨by decide +kernel, by decide +kernel⟩, List.mem_of_getElem? (i := 831) (by decide +kernel), List.mem_of_getElem? (i := 955) (by decide +kernel), List.mem_of_getElem? (i := 956) (by decide +kernel)⟩
def lw_privs_1 : List (MethodName × Nat) := [(⟨"OncePerRoad", "rowRefusal", "(IZ)I"⟩, 9), (⟨"OncePerRoad", "applyStatement", "(LOncePerRoad$Row;I)Z"⟩, 9), (⟨"OncePerRoad", "milesGone", "(LOncePerRoad$Land;IIII)I"⟩, 9), (⟨"OncePerRoad$Way", "extend", "(IIII)V"⟩, 9), (⟨"OncePerRoad", "carrierRefusal", "(I)I"⟩, 9), (⟨"OncePerRoad", "isErrand", "(III)Z"⟩, 9), (⟨"OncePerRoad$Land", "reachAlong", "(III)V"⟩, 10), (⟨"OncePerRoad$Land", "areAllServed", "(II)Z"⟩, 10), (⟨"OncePerRoad", "carriagesRefusal", "(II)I"⟩, 9), (⟨"OncePerRoad", "milesOfCarriage", "(LOncePerRoad$Row;I)I"⟩, 9), (⟨"OncePerRoad", "ordersOfAll", "(LOncePerRoad$Row;III)I"⟩, 9), (⟨"java/lang/Throwable", "fillInStackTrace", "(I)Ljava/lang/Throwable;"⟩, 6), (⟨"OncePerRoadModel", "wrongRow", "(II)I"⟩, 30), (⟨"OncePerRoadModel", "readsStatement", "()Z"⟩, 30), (⟨"OncePerRoadModel", "here", "()I"⟩, 30), (⟨"OncePerRoadModel", "readsDigits", "(I)Z"⟩, 30)]
theorem lw_r1 : ∀ q ∈ lw_privs_1, lw_okq q := List.forall_mem_cons.mpr ⟨lw_p0, List.forall_mem_cons.mpr ⟨lw_p1, List.forall_mem_cons.mpr ⟨lw_p2, List.forall_mem_cons.mpr ⟨lw_p3, List.forall_mem_cons.mpr ⟨lw_p4, List.forall_mem_cons.mpr ⟨lw_p5, List.forall_mem_cons.mpr ⟨lw_p6, List.forall_mem_cons.mpr ⟨lw_p7, List.forall_mem_cons.mpr ⟨lw_p8, List.forall_mem_cons.mpr ⟨lw_p9, List.forall_mem_cons.mpr ⟨lw_p10, List.forall_mem_cons.mpr ⟨lw_p11, List.forall_mem_cons.mpr ⟨lw_p12, List.forall_mem_cons.mpr ⟨lw_p13, List.forall_mem_cons.mpr ⟨lw_p14, List.forall_mem_cons.mpr ⟨lw_p15, fun _ h => absurd h List.not_mem_nil⟩⟩⟩⟩⟩⟩⟩⟩⟩⟩⟩⟩⟩⟩⟩⟩
theorem lw_p16 : lw_okq (⟨"OncePerRoadModel", "comesTold", "(I)Z"⟩, 30) := ⟨⟨by decide +kernel, by decide +kernel⟩, List.mem_of_getElem? (i := 831) (by decide +kernel), List.mem_of_getElem? (i := 964) (by decide +kernel), List.mem_of_getElem? (i := 965) (by decide +kernel)⟩
theorem lw_p17 : lw_okq (⟨"OncePerRoadModel", "areTwo", "(II)Z"⟩, 30) := ⟨⟨by decide +kernel, by decide +kernel⟩, List.mem_of_getElem? (i := 831) (by decide +kernel), List.mem_of_getElem? (i := 968) (by decide +kernel), List.mem_of_getElem? (i := 969) (by decide +kernel)⟩
theorem lw_p18 : lw_okq (⟨"OncePerRoadModel", "isPlace", "(I)Z"⟩, 30) := ⟨⟨by decide +kernel, by decide +kernel⟩, List.mem_of_getElem? (i := 831) (by decide +kernel), List.mem_of_getElem? (i := 972) (by decide +kernel), List.mem_of_getElem? (i := 973) (by decide +kernel)⟩
theorem lw_p19 : lw_okq (⟨"OncePerRoadModel", "layRoad", "(III)V"⟩, 30) := ⟨⟨by decide +kernel, by decide +kernel⟩, List.mem_of_getElem? (i := 831) (by decide +kernel), List.mem_of_getElem? (i := 976) (by decide +kernel), List.mem_of_getElem? (i := 977) (by decide +kernel)⟩
theorem lw_p20 : lw_okq (⟨"OncePerRoadModel", "puts", "(III)V"⟩, 30) := ⟨⟨by decide +kernel, by decide +kernel⟩, List.mem_of_getElem? (i := 831) (by decide +kernel), List.mem_of_getElem? (i := 980) (by decide +kernel), List.mem_of_getElem? (i := 981) (by decide +kernel)⟩
theorem lw_p21 : lw_okq (⟨"OncePerRoadModel", "isRoad", "(I)Z"⟩, 30) := ⟨⟨by decide +kernel, by decide +kernel⟩, List.mem_of_getElem? (i := 831) (by decide +kernel), List.mem_of_getElem? (i := 984) (by decide +kernel), List.mem_of_getElem? (i := 985) (by decide +kernel)⟩
theorem lw_p22 : lw_okq (⟨"OncePerRoadModel", "isFree", "(II)Z"⟩, 30) := ⟨⟨by decide +kernel, by decide +kernel⟩, List.mem_of_getElem? (i := 831) (by decide +kernel), List.mem_of_getElem? (i := 992) (by decide +kernel), List.mem_of_getElem? (i := 993) (by decide +kernel)⟩
theorem lw_p23 : lw_okq (⟨"OncePerRoadModel", "get", "(II)I"⟩, 30) := ⟨⟨by decide +kernel, by decide +kernel⟩, List.mem_of_getElem? (i := 831) (by decide +kernel), List.mem_of_getElem? (i := 996) (by decide +kernel), List.mem_of_getElem? (i := 997) (by decide +kernel)⟩
theorem lw_p24 : lw_okq (⟨"OncePerRoadModel", "adds", "(II)Z"⟩, 30) := ⟨⟨by decide +kernel, by decide +kernel⟩, List.mem_of_getElem? (i := 831) (by decide +kernel), List.mem_of_getElem? (i := 1000) (by decide +kernel), List.mem_of_getElem? (i := 1001) (by decide +kernel)⟩
theorem lw_p25 : lw_okq (⟨"OncePerRoadModel", "isCarrier", "(I)Z"⟩, 30) := ⟨⟨by decide +kernel, by decide +kernel⟩, List.mem_of_getElem? (i := 831) (by decide +kernel), List.mem_of_getElem? (i := 1004) (by decide +kernel), List.mem_of_getElem? (i := 1005) (by decide +kernel)⟩
theorem lw_p26 : lw_okq (⟨"OncePerRoadModel", "goes", "(IIII)Z"⟩, 30) := ⟨⟨by decide +kernel, by decide +kernel⟩, List.mem_of_getElem? (i := 831) (by decide +kernel), List.mem_of_getElem? (i := 1008) (by decide +kernel), List.mem_of_getElem? (i := 1009) (by decide +kernel)⟩
theorem lw_p27 : lw_okq (⟨"OncePerRoadModel", "findsWay", "(IIII)Z"⟩, 30) := ⟨⟨by decide +kernel, by decide +kernel⟩, List.mem_of_getElem? (i := 831) (by decide +kernel), List.mem_of_getElem? (i := 1012) (by decide +kernel), List.mem_of_getElem? (i := 1013) (by decide +kernel)⟩
theorem lw_p28 : lw_okq (⟨"OncePerRoadModel", "tries", "(IIIIIIII)V"⟩, 30) := ⟨⟨by decide +kernel, by decide +kernel⟩, List.mem_of_getElem? (i := 831) (by decide +kernel), List.mem_of_getElem? (i := 1016) (by decide +kernel), List.mem_of_getElem? (i := 1017) (by decide +kernel)⟩
theorem lw_p29 : lw_okq (⟨"OncePerRoadModel", "kind", "(I)I"⟩, 30) := ⟨⟨by decide +kernel, by decide +kernel⟩, List.mem_of_getElem? (i := 831) (by decide +kernel), List.mem_of_getElem? (i := 1020) (by decide +kernel), List.mem_of_getElem? (i := 1021) (by decide +kernel)⟩
theorem lw_p30 : lw_okq (⟨"OncePerRoadModel", "figure", "(I)I"⟩, 30) := ⟨⟨by decide +kernel, by decide +kernel⟩, List.mem_of_getElem? (i := 831) (by decide +kernel), List.mem_of_getElem? (i := 1024) (by decide +kernel), List.mem_of_getElem? (i := 1025) (by decide +kernel)⟩
theorem lw_p31 : lw_okq (⟨"OncePerRoadModel", "loads", "(IIII)I"⟩, 30) := ⟨⟨by decide +kernel, by decide +kernel⟩, List.mem_of_getElem? (i := 831) (by decide +kernel), List.mem_of_getElem? (i := 1028) (by decide +kernel), List.mem_of_getElem? (i := 1029) (by decide +kernel)⟩
def lw_privs_2 : List (MethodName × Nat) := [(⟨"OncePerRoadModel", "comesTold", "(I)Z"⟩, 30), (⟨"OncePerRoadModel", "areTwo", "(II)Z"⟩, 30), (⟨"OncePerRoadModel", "isPlace", "(I)Z"⟩, 30), (⟨"OncePerRoadModel", "layRoad", "(III)V"⟩, 30), (⟨"OncePerRoadModel", "puts", "(III)V"⟩, 30), (⟨"OncePerRoadModel", "isRoad", "(I)Z"⟩, 30), (⟨"OncePerRoadModel", "isFree", "(II)Z"⟩, 30), (⟨"OncePerRoadModel", "get", "(II)I"⟩, 30), (⟨"OncePerRoadModel", "adds", "(II)Z"⟩, 30), (⟨"OncePerRoadModel", "isCarrier", "(I)Z"⟩, 30), (⟨"OncePerRoadModel", "goes", "(IIII)Z"⟩, 30), (⟨"OncePerRoadModel", "findsWay", "(IIII)Z"⟩, 30), (⟨"OncePerRoadModel", "tries", "(IIIIIIII)V"⟩, 30), (⟨"OncePerRoadModel", "kind", "(I)I"⟩, 30), (⟨"OncePerRoadModel", "figure", "(I)I"⟩, 30), (⟨"OncePerRoadModel", "loads", "(IIII)I"⟩, 30)]
theorem lw_r2 : ∀ q ∈ lw_privs_2, lw_okq q := List.forall_mem_cons.mpr ⟨lw_p16, List.forall_mem_cons.mpr ⟨lw_p17, List.forall_mem_cons.mpr ⟨lw_p18, List.forall_mem_cons.mpr ⟨lw_p19, List.forall_mem_cons.mpr ⟨lw_p20, List.forall_mem_cons.mpr ⟨lw_p21, List.forall_mem_cons.mpr ⟨lw_p22, List.forall_mem_cons.mpr ⟨lw_p23, List.forall_mem_cons.mpr ⟨lw_p24, List.forall_mem_cons.mpr ⟨lw_p25, List.forall_mem_cons.mpr ⟨lw_p26, List.forall_mem_cons.mpr ⟨lw_p27, List.forall_mem_cons.mpr ⟨lw_p28, List.forall_mem_cons.mpr ⟨lw_p29, List.forall_mem_cons.mpr ⟨lw_p30, List.forall_mem_cons.mpr ⟨lw_p31, fun _ h => absurd h List.not_mem_nil⟩⟩⟩⟩⟩⟩⟩⟩⟩⟩⟩⟩⟩⟩⟩⟩
theorem lw_p32 : lw_okq (⟨"OncePerRoadModel", "to", "(II)I"⟩, 30) := ⟨⟨by decide +kernel, by decide +kernel⟩, List.mem_of_getElem? (i := 831) (by decide +kernel), List.mem_of_getElem? (i := 1032) (by decide +kernel), List.mem_of_getElem? (i := 1033) (by decide +kernel)⟩
theorem lw_p33 : lw_okq (⟨"OncePerRoadModel", "weightOf", "(III)I"⟩, 30) := ⟨⟨by decide +kernel, by decide +kernel⟩, List.mem_of_getElem? (i := 831) (by decide +kernel), List.mem_of_getElem? (i := 1036) (by decide +kernel), List.mem_of_getElem? (i := 1037) (by decide +kernel)⟩
theorem lw_p34 : lw_okq (⟨"OncePerRoadModel", "wrongKept", "(I)I"⟩, 30) := ⟨⟨by decide +kernel, by decide +kernel⟩, List.mem_of_getElem? (i := 831) (by decide +kernel), List.mem_of_getElem? (i := 1055) (by decide +kernel), List.mem_of_getElem? (i := 1056) (by decide +kernel)⟩
theorem lw_p35 : lw_okq (⟨"OncePerRoadModel", "isAsked", "(IIII)Z"⟩, 30) := ⟨⟨by decide +kernel, by decide +kernel⟩, List.mem_of_getElem? (i := 831) (by decide +kernel), List.mem_of_getElem? (i := 1067) (by decide +kernel), List.mem_of_getElem? (i := 1068) (by decide +kernel)⟩
theorem lw_p36 : lw_okq (⟨"OncePerRoadModel", "isGoodWay", "(III)Z"⟩, 30) := ⟨⟨by decide +kernel, by decide +kernel⟩, List.mem_of_getElem? (i := 831) (by decide +kernel), List.mem_of_getElem? (i := 1084) (by decide +kernel), List.mem_of_getElem? (i := 1085) (by decide +kernel)⟩
theorem lw_p37 : lw_okq (⟨"OncePerRoadModel", "farOf", "(III)I"⟩, 30) := ⟨⟨by decide +kernel, by decide +kernel⟩, List.mem_of_getElem? (i := 831) (by decide +kernel), List.mem_of_getElem? (i := 1088) (by decide +kernel), List.mem_of_getElem? (i := 1089) (by decide +kernel)⟩
theorem lw_p38 : lw_okq (⟨"OncePerRoadModel", "manyOf", "(IIII)I"⟩, 30) := ⟨⟨by decide +kernel, by decide +kernel⟩, List.mem_of_getElem? (i := 831) (by decide +kernel), List.mem_of_getElem? (i := 1096) (by decide +kernel), List.mem_of_getElem? (i := 1097) (by decide +kernel)⟩
theorem lw_p39 : lw_okq (⟨"OncePerRoadModel", "leads", "(III)I"⟩, 30) := ⟨⟨by decide +kernel, by decide +kernel⟩, List.mem_of_getElem? (i := 831) (by decide +kernel), List.mem_of_getElem? (i := 1100) (by decide +kernel), List.mem_of_getElem? (i := 1101) (by decide +kernel)⟩
theorem lw_p40 : lw_okq (⟨"OncePerRoadModel", "canServe", "(III)Z"⟩, 30) := ⟨⟨by decide +kernel, by decide +kernel⟩, List.mem_of_getElem? (i := 831) (by decide +kernel), List.mem_of_getElem? (i := 1108) (by decide +kernel), List.mem_of_getElem? (i := 1109) (by decide +kernel)⟩
theorem lw_p41 : lw_okq (⟨"OncePerRoadModel", "roundFrom", "(IIIIII)V"⟩, 30) := ⟨⟨by decide +kernel, by decide +kernel⟩, List.mem_of_getElem? (i := 831) (by decide +kernel), List.mem_of_getElem? (i := 1128) (by decide +kernel), List.mem_of_getElem? (i := 1129) (by decide +kernel)⟩
theorem lw_p42 : lw_okq (⟨"OncePerRoadModel", "begins", "()V"⟩, 30) := ⟨⟨by decide +kernel, by decide +kernel⟩, List.mem_of_getElem? (i := 831) (by decide +kernel), List.mem_of_getElem? (i := 1136) (by decide +kernel), List.mem_of_getElem? (i := 1137) (by decide +kernel)⟩
theorem lw_p43 : lw_okq (⟨"OncePerRoadModel", "ends", "()V"⟩, 30) := ⟨⟨by decide +kernel, by decide +kernel⟩, List.mem_of_getElem? (i := 831) (by decide +kernel), List.mem_of_getElem? (i := 1140) (by decide +kernel), List.mem_of_getElem? (i := 1141) (by decide +kernel)⟩
theorem lw_p44 : lw_okq (⟨"OncePerRoadModel", "wrongAsk", "(II)I"⟩, 30) := ⟨⟨by decide +kernel, by decide +kernel⟩, List.mem_of_getElem? (i := 831) (by decide +kernel), List.mem_of_getElem? (i := 1148) (by decide +kernel), List.mem_of_getElem? (i := 1149) (by decide +kernel)⟩
theorem lw_p45 : lw_okq (⟨"OncePerRoadModel", "wrongCarriages", "(I)I"⟩, 30) := ⟨⟨by decide +kernel, by decide +kernel⟩, List.mem_of_getElem? (i := 831) (by decide +kernel), List.mem_of_getElem? (i := 1152) (by decide +kernel), List.mem_of_getElem? (i := 1153) (by decide +kernel)⟩
theorem lw_p46 : lw_okq (⟨"OncePerRoadModel", "told", "(II)I"⟩, 30) := ⟨⟨by decide +kernel, by decide +kernel⟩, List.mem_of_getElem? (i := 831) (by decide +kernel), List.mem_of_getElem? (i := 1156) (by decide +kernel), List.mem_of_getElem? (i := 1157) (by decide +kernel)⟩
theorem lw_p47 : lw_okq (⟨"OncePerRoadModel", "goesTold", "(II)Z"⟩, 30) := ⟨⟨by decide +kernel, by decide +kernel⟩, List.mem_of_getElem? (i := 831) (by decide +kernel), List.mem_of_getElem? (i := 1160) (by decide +kernel), List.mem_of_getElem? (i := 1161) (by decide +kernel)⟩
def lw_privs_3 : List (MethodName × Nat) := [(⟨"OncePerRoadModel", "to", "(II)I"⟩, 30), (⟨"OncePerRoadModel", "weightOf", "(III)I"⟩, 30), (⟨"OncePerRoadModel", "wrongKept", "(I)I"⟩, 30), (⟨"OncePerRoadModel", "isAsked", "(IIII)Z"⟩, 30), (⟨"OncePerRoadModel", "isGoodWay", "(III)Z"⟩, 30), (⟨"OncePerRoadModel", "farOf", "(III)I"⟩, 30), (⟨"OncePerRoadModel", "manyOf", "(IIII)I"⟩, 30), (⟨"OncePerRoadModel", "leads", "(III)I"⟩, 30), (⟨"OncePerRoadModel", "canServe", "(III)Z"⟩, 30), (⟨"OncePerRoadModel", "roundFrom", "(IIIIII)V"⟩, 30), (⟨"OncePerRoadModel", "begins", "()V"⟩, 30), (⟨"OncePerRoadModel", "ends", "()V"⟩, 30), (⟨"OncePerRoadModel", "wrongAsk", "(II)I"⟩, 30), (⟨"OncePerRoadModel", "wrongCarriages", "(I)I"⟩, 30), (⟨"OncePerRoadModel", "told", "(II)I"⟩, 30), (⟨"OncePerRoadModel", "goesTold", "(II)Z"⟩, 30)]
theorem lw_r3 : ∀ q ∈ lw_privs_3, lw_okq q := List.forall_mem_cons.mpr ⟨lw_p32, List.forall_mem_cons.mpr ⟨lw_p33, List.forall_mem_cons.mpr ⟨lw_p34, List.forall_mem_cons.mpr ⟨lw_p35, List.forall_mem_cons.mpr ⟨lw_p36, List.forall_mem_cons.mpr ⟨lw_p37, List.forall_mem_cons.mpr ⟨lw_p38, List.forall_mem_cons.mpr ⟨lw_p39, List.forall_mem_cons.mpr ⟨lw_p40, List.forall_mem_cons.mpr ⟨lw_p41, List.forall_mem_cons.mpr ⟨lw_p42, List.forall_mem_cons.mpr ⟨lw_p43, List.forall_mem_cons.mpr ⟨lw_p44, List.forall_mem_cons.mpr ⟨lw_p45, List.forall_mem_cons.mpr ⟨lw_p46, List.forall_mem_cons.mpr ⟨lw_p47, fun _ h => absurd h List.not_mem_nil⟩⟩⟩⟩⟩⟩⟩⟩⟩⟩⟩⟩⟩⟩⟩⟩
theorem lw_p48 : lw_okq (⟨"OncePerRoadModel", "ordersFrom", "(III)V"⟩, 30) := ⟨⟨by decide +kernel, by decide +kernel⟩, List.mem_of_getElem? (i := 831) (by decide +kernel), List.mem_of_getElem? (i := 1168) (by decide +kernel), List.mem_of_getElem? (i := 1169) (by decide +kernel)⟩
theorem lw_p49 : lw_okq (⟨"OncePerRoadModel", "goesBy", "(I)V"⟩, 30) := ⟨⟨by decide +kernel, by decide +kernel⟩, List.mem_of_getElem? (i := 831) (by decide +kernel), List.mem_of_getElem? (i := 1172) (by decide +kernel), List.mem_of_getElem? (i := 1173) (by decide +kernel)⟩
theorem lw_p50 : lw_okq (⟨"OncePerRoadModel", "drawn", "(I)I"⟩, 30) := ⟨⟨by decide +kernel, by decide +kernel⟩, List.mem_of_getElem? (i := 831) (by decide +kernel), List.mem_of_getElem? (i := 1181) (by decide +kernel), List.mem_of_getElem? (i := 1182) (by decide +kernel)⟩
theorem lw_p51 : lw_okq (⟨"OncePerRoadModel", "wrongTwo", "(II)I"⟩, 30) := ⟨⟨by decide +kernel, by decide +kernel⟩, List.mem_of_getElem? (i := 831) (by decide +kernel), List.mem_of_getElem? (i := 1192) (by decide +kernel), List.mem_of_getElem? (i := 1193) (by decide +kernel)⟩
def lw_privs_4 : List (MethodName × Nat) := [(⟨"OncePerRoadModel", "ordersFrom", "(III)V"⟩, 30), (⟨"OncePerRoadModel", "goesBy", "(I)V"⟩, 30), (⟨"OncePerRoadModel", "drawn", "(I)I"⟩, 30), (⟨"OncePerRoadModel", "wrongTwo", "(II)I"⟩, 30)]
theorem lw_r4 : ∀ q ∈ lw_privs_4, lw_okq q := List.forall_mem_cons.mpr ⟨lw_p48, List.forall_mem_cons.mpr ⟨lw_p49, List.forall_mem_cons.mpr ⟨lw_p50, List.forall_mem_cons.mpr ⟨lw_p51, fun _ h => absurd h List.not_mem_nil⟩⟩⟩⟩
def lw_privs : List (MethodName × Nat) := lw_privs_1 ++ (lw_privs_2 ++ (lw_privs_3 ++ (lw_privs_4)))
def lw_tbl : List Cond := k2_sels lw_privs ++ tables_1
theorem lw_privs_ok : ∀ q ∈ lw_privs, lw_okq q := by
  show ∀ q ∈ lw_privs_1 ++ (lw_privs_2 ++ (lw_privs_3 ++ (lw_privs_4))), lw_okq q
  exact List.forall_mem_append.mpr ⟨lw_r1, List.forall_mem_append.mpr ⟨lw_r2, List.forall_mem_append.mpr ⟨lw_r3, lw_r4⟩⟩⟩
-- ===== end of PART A; then your names; then what follows =====
def RX0 : String := "OncePerRoad$Carrier"
def TX0 : u_T := fun k => match k with
  | 0 => ("OncePerRoad$Carrier", "kind", "I", true)
  | _ => ("OncePerRoad$Carrier", "figure", "I", true)
def tyX0 : Nat → FieldType := fun k => match k with
  | 0 => .int
  | _ => .int
abbrev wsX00 : List Cond := u_ws RX0 TX0 2
theorem nmX0 : ∀ a, a < 2 → ∀ b, b < 2 → a ≠ b → (TX0 a).2.1 ≠ (TX0 b).2.1 := by decide +kernel
theorem tyX0_ok : ∀ k, k < 2 → parseFieldDescriptor (TX0 k).2.2.1 = some (tyX0 k) := by decide +kernel
abbrev cX0_init : ByteArray := prog_2_method_1_code
def yX0_init : MethodName := ⟨RX0, "<init>", "(II)V"⟩
abbrev cX0_loads : ByteArray := prog_2_method_2_code
def yX0_loads : MethodName := ⟨RX0, "loads", "(III)I"⟩
abbrev cX0_mayGo : ByteArray := prog_2_method_3_code
def yX0_mayGo : MethodName := ⟨RX0, "mayGo", "(III)Z"⟩
abbrev cX0_leaves : ByteArray := prog_2_method_4_code
def yX0_leaves : MethodName := ⟨RX0, "leaves", "(II)I"⟩
abbrev cX0_weightOf : ByteArray := prog_2_method_5_code
def yX0_weightOf : MethodName := ⟨RX0, "weightOf", "(III)I"⟩
abbrev cX0_mostRoads : ByteArray := prog_2_method_6_code
def yX0_mostRoads : MethodName := ⟨RX0, "mostRoads", "()I"⟩
abbrev cX0_pay : ByteArray := prog_2_method_7_code
def yX0_pay : MethodName := ⟨RX0, "pay", "()I"⟩
abbrev cX0_fail : ByteArray := prog_2_method_8_code
def yX0_fail : MethodName := ⟨RX0, "fail", "()V"⟩
def RX1 : String := "OncePerRoad$Ferry"
def TX1 : u_T := fun k => match k with
  | 0 => ("OncePerRoad$Carrier", "kind", "I", true)
  | _ => ("OncePerRoad$Carrier", "figure", "I", true)
def tyX1 : Nat → FieldType := fun k => match k with
  | 0 => .int
  | _ => .int
abbrev wsX10 : List Cond := u_ws RX1 TX1 2
theorem nmX1 : ∀ a, a < 2 → ∀ b, b < 2 → a ≠ b → (TX1 a).2.1 ≠ (TX1 b).2.1 := by decide +kernel
theorem tyX1_ok : ∀ k, k < 2 → parseFieldDescriptor (TX1 k).2.2.1 = some (tyX1 k) := by decide +kernel
abbrev cX1_init : ByteArray := prog_3_method_1_code
def yX1_init : MethodName := ⟨RX1, "<init>", "(II)V"⟩
abbrev cX1_mayGo : ByteArray := prog_3_method_2_code
def yX1_mayGo : MethodName := ⟨RX1, "mayGo", "(III)Z"⟩
abbrev cX1_leaves : ByteArray := prog_3_method_3_code
def yX1_leaves : MethodName := ⟨RX1, "leaves", "(II)I"⟩
abbrev cX1_pay : ByteArray := prog_3_method_4_code
def yX1_pay : MethodName := ⟨RX1, "pay", "()I"⟩
abbrev cX1_fail : ByteArray := prog_3_method_5_code
def yX1_fail : MethodName := ⟨RX1, "fail", "()V"⟩
def RX2 : String := "OncePerRoad$Land"
def TX2 : u_T := fun k => match k with
  | 0 => ("OncePerRoad$Land", "places", "I", false)
  | 1 => ("OncePerRoad$Land", "roads", "I", false)
  | 2 => ("OncePerRoad$Land", "carriers", "I", false)
  | 3 => ("OncePerRoad$Land", "nicks", "J", false)
  | 4 => ("OncePerRoad$Land", "from", "[I", true)
  | 5 => ("OncePerRoad$Land", "to", "[I", true)
  | 6 => ("OncePerRoad$Land", "miles", "[I", true)
  | 7 => ("OncePerRoad$Land", "hired", "[LOncePerRoad$Carrier;", true)
  | 8 => ("OncePerRoad$Land", "leading", "[I", true)
  | _ => ("OncePerRoad$Land", "reached", "[I", true)
def tyX2 : Nat → FieldType := fun k => match k with
  | 0 => .int
  | 1 => .int
  | 2 => .int
  | 3 => .long
  | 4 => .array .int
  | 5 => .array .int
  | 6 => .array .int
  | 7 => .array (.object "OncePerRoad$Carrier")
  | 8 => .array .int
  | _ => .array .int
abbrev wsX20 : List Cond := u_ws RX2 TX2 10
theorem nmX2 : ∀ a, a < 10 → ∀ b, b < 10 → a ≠ b → (TX2 a).2.1 ≠ (TX2 b).2.1 := by decide +kernel
theorem tyX2_ok : ∀ k, k < 10 → parseFieldDescriptor (TX2 k).2.2.1 = some (tyX2 k) := by decide +kernel
abbrev cX2_init : ByteArray := prog_4_method_1_code
def yX2_init : MethodName := ⟨RX2, "<init>", "()V"⟩
abbrev cX2_become : ByteArray := prog_4_method_2_code
def yX2_become : MethodName := ⟨RX2, "become", "(LOncePerRoad$Land;)V"⟩
abbrev cX2_hasPlace : ByteArray := prog_4_method_3_code
def yX2_hasPlace : MethodName := ⟨RX2, "hasPlace", "(I)Z"⟩
abbrev cX2_areTwoPlaces : ByteArray := prog_4_method_4_code
def yX2_areTwoPlaces : MethodName := ⟨RX2, "areTwoPlaces", "(II)Z"⟩
abbrev cX2_hasRoad : ByteArray := prog_4_method_5_code
def yX2_hasRoad : MethodName := ⟨RX2, "hasRoad", "(I)Z"⟩
abbrev cX2_carrierAt : ByteArray := prog_4_method_6_code
def yX2_carrierAt : MethodName := ⟨RX2, "carrierAt", "(I)LOncePerRoad$Carrier;"⟩
abbrev cX2_setPlaces : ByteArray := prog_4_method_7_code
def yX2_setPlaces : MethodName := ⟨RX2, "setPlaces", "(I)Z"⟩
abbrev cX2_addRoad : ByteArray := prog_4_method_8_code
def yX2_addRoad : MethodName := ⟨RX2, "addRoad", "(III)Z"⟩
abbrev cX2_addCarrier : ByteArray := prog_4_method_9_code
def yX2_addCarrier : MethodName := ⟨RX2, "addCarrier", "(LOncePerRoad$Carrier;)Z"⟩
abbrev cX2_nicksOf : ByteArray := prog_4_method_10_code
def yX2_nicksOf : MethodName := ⟨RX2, "nicksOf", "(I)I"⟩
abbrev cX2_isFree : ByteArray := prog_4_method_11_code
def yX2_isFree : MethodName := ⟨RX2, "isFree", "(II)Z"⟩
abbrev cX2_addNick : ByteArray := prog_4_method_12_code
def yX2_addNick : MethodName := ⟨RX2, "addNick", "(II)Z"⟩
abbrev cX2_milesOfAll : ByteArray := prog_4_method_13_code
def yX2_milesOfAll : MethodName := ⟨RX2, "milesOfAll", "()I"⟩
abbrev cX2_otherEnd : ByteArray := prog_4_method_14_code
def yX2_otherEnd : MethodName := ⟨RX2, "otherEnd", "(II)I"⟩
abbrev cX2_leastMiles : ByteArray := prog_4_method_15_code
def yX2_leastMiles : MethodName := ⟨RX2, "leastMiles", "(IIII)I"⟩
abbrev cX2_reachAlong : ByteArray := prog_4_method_16_code
def yX2_reachAlong : MethodName := ⟨RX2, "reachAlong", "(III)V"⟩
abbrev cX2_countLeading : ByteArray := prog_4_method_17_code
def yX2_countLeading : MethodName := ⟨RX2, "countLeading", "(I)V"⟩
abbrev cX2_fewestLeading : ByteArray := prog_4_method_18_code
def yX2_fewestLeading : MethodName := ⟨RX2, "fewestLeading", "(IIIII)I"⟩
abbrev cX2_bars : ByteArray := prog_4_method_19_code
def yX2_bars : MethodName := ⟨RX2, "bars", "(II)I"⟩
abbrev cX2_mostServed : ByteArray := prog_4_method_20_code
def yX2_mostServed : MethodName := ⟨RX2, "mostServed", "(II)I"⟩
abbrev cX2_areAllServed : ByteArray := prog_4_method_21_code
def yX2_areAllServed : MethodName := ⟨RX2, "areAllServed", "(II)Z"⟩
def RX3 : String := "OncePerRoad$Mill"
def TX3 : u_T := fun k => match k with
  | 0 => ("OncePerRoad$Carrier", "kind", "I", true)
  | _ => ("OncePerRoad$Carrier", "figure", "I", true)
def tyX3 : Nat → FieldType := fun k => match k with
  | 0 => .int
  | _ => .int
abbrev wsX30 : List Cond := u_ws RX3 TX3 2
theorem nmX3 : ∀ a, a < 2 → ∀ b, b < 2 → a ≠ b → (TX3 a).2.1 ≠ (TX3 b).2.1 := by decide +kernel
theorem tyX3_ok : ∀ k, k < 2 → parseFieldDescriptor (TX3 k).2.2.1 = some (tyX3 k) := by decide +kernel
abbrev cX3_init : ByteArray := prog_5_method_1_code
def yX3_init : MethodName := ⟨RX3, "<init>", "(II)V"⟩
abbrev cX3_loads : ByteArray := prog_5_method_2_code
def yX3_loads : MethodName := ⟨RX3, "loads", "(III)I"⟩
abbrev cX3_pay : ByteArray := prog_5_method_3_code
def yX3_pay : MethodName := ⟨RX3, "pay", "()I"⟩
def RX4 : String := "OncePerRoad$Mixed"
def TX4 : u_T := fun k => match k with
  | 0 => ("OncePerRoad$Carrier", "kind", "I", true)
  | _ => ("OncePerRoad$Carrier", "figure", "I", true)
def tyX4 : Nat → FieldType := fun k => match k with
  | 0 => .int
  | _ => .int
abbrev wsX40 : List Cond := u_ws RX4 TX4 2
theorem nmX4 : ∀ a, a < 2 → ∀ b, b < 2 → a ≠ b → (TX4 a).2.1 ≠ (TX4 b).2.1 := by decide +kernel
theorem tyX4_ok : ∀ k, k < 2 → parseFieldDescriptor (TX4 k).2.2.1 = some (tyX4 k) := by decide +kernel
abbrev cX4_init : ByteArray := prog_6_method_1_code
def yX4_init : MethodName := ⟨RX4, "<init>", "(II)V"⟩
abbrev cX4_loads : ByteArray := prog_6_method_2_code
def yX4_loads : MethodName := ⟨RX4, "loads", "(III)I"⟩
abbrev cX4_weightOf : ByteArray := prog_6_method_3_code
def yX4_weightOf : MethodName := ⟨RX4, "weightOf", "(III)I"⟩
abbrev cX4_pay : ByteArray := prog_6_method_4_code
def yX4_pay : MethodName := ⟨RX4, "pay", "()I"⟩
abbrev cX4_fail : ByteArray := prog_6_method_5_code
def yX4_fail : MethodName := ⟨RX4, "fail", "()V"⟩
def RX5 : String := "OncePerRoad$Near"
def TX5 : u_T := fun k => match k with
  | 0 => ("OncePerRoad$Carrier", "kind", "I", true)
  | _ => ("OncePerRoad$Carrier", "figure", "I", true)
def tyX5 : Nat → FieldType := fun k => match k with
  | 0 => .int
  | _ => .int
abbrev wsX50 : List Cond := u_ws RX5 TX5 2
theorem nmX5 : ∀ a, a < 2 → ∀ b, b < 2 → a ≠ b → (TX5 a).2.1 ≠ (TX5 b).2.1 := by decide +kernel
theorem tyX5_ok : ∀ k, k < 2 → parseFieldDescriptor (TX5 k).2.2.1 = some (tyX5 k) := by decide +kernel
abbrev cX5_init : ByteArray := prog_7_method_1_code
def yX5_init : MethodName := ⟨RX5, "<init>", "(II)V"⟩
abbrev cX5_weightOf : ByteArray := prog_7_method_2_code
def yX5_weightOf : MethodName := ⟨RX5, "weightOf", "(III)I"⟩
abbrev cX5_pay : ByteArray := prog_7_method_3_code
def yX5_pay : MethodName := ⟨RX5, "pay", "()I"⟩
def RX6 : String := "OncePerRoad$Round"
def TX6 : u_T := fun k => match k with
  | 0 => ("OncePerRoad$Carrier", "kind", "I", true)
  | _ => ("OncePerRoad$Carrier", "figure", "I", true)
def tyX6 : Nat → FieldType := fun k => match k with
  | 0 => .int
  | _ => .int
abbrev wsX60 : List Cond := u_ws RX6 TX6 2
theorem nmX6 : ∀ a, a < 2 → ∀ b, b < 2 → a ≠ b → (TX6 a).2.1 ≠ (TX6 b).2.1 := by decide +kernel
theorem tyX6_ok : ∀ k, k < 2 → parseFieldDescriptor (TX6 k).2.2.1 = some (tyX6 k) := by decide +kernel
abbrev cX6_init : ByteArray := prog_8_method_1_code
def yX6_init : MethodName := ⟨RX6, "<init>", "(II)V"⟩
abbrev cX6_weightOf : ByteArray := prog_8_method_2_code
def yX6_weightOf : MethodName := ⟨RX6, "weightOf", "(III)I"⟩
def RX7 : String := "OncePerRoad$Row"
def TX7 : u_T := fun k => match k with
  | 0 => ("OncePerRoad$Row", "cells", "[I", true)
  | 1 => ("OncePerRoad$Row", "sort", "I", false)
  | _ => ("OncePerRoad$Row", "size", "I", false)
def tyX7 : Nat → FieldType := fun k => match k with
  | 0 => .array .int
  | 1 => .int
  | _ => .int
abbrev wsX70 : List Cond := u_ws RX7 TX7 3
theorem nmX7 : ∀ a, a < 3 → ∀ b, b < 3 → a ≠ b → (TX7 a).2.1 ≠ (TX7 b).2.1 := by decide +kernel
theorem tyX7_ok : ∀ k, k < 3 → parseFieldDescriptor (TX7 k).2.2.1 = some (tyX7 k) := by decide +kernel
abbrev cX7_init : ByteArray := prog_9_method_1_code
def yX7_init : MethodName := ⟨RX7, "<init>", "()V"⟩
abbrev cX7_startAnew : ByteArray := prog_9_method_2_code
def yX7_startAnew : MethodName := ⟨RX7, "startAnew", "(II)V"⟩
abbrev cX7_has : ByteArray := prog_9_method_3_code
def yX7_has : MethodName := ⟨RX7, "has", "(I)Z"⟩
abbrev cX7_hasStretch : ByteArray := prog_9_method_4_code
def yX7_hasStretch : MethodName := ⟨RX7, "hasStretch", "(II)Z"⟩
abbrev cX7_cell : ByteArray := prog_9_method_5_code
def yX7_cell : MethodName := ⟨RX7, "cell", "(I)I"⟩
abbrev cX7_set : ByteArray := prog_9_method_6_code
def yX7_set : MethodName := ⟨RX7, "set", "(II)Z"⟩
def RX8 : String := "OncePerRoad$Spare"
def TX8 : u_T := fun k => match k with
  | 0 => ("OncePerRoad$Carrier", "kind", "I", true)
  | _ => ("OncePerRoad$Carrier", "figure", "I", true)
def tyX8 : Nat → FieldType := fun k => match k with
  | 0 => .int
  | _ => .int
abbrev wsX80 : List Cond := u_ws RX8 TX8 2
theorem nmX8 : ∀ a, a < 2 → ∀ b, b < 2 → a ≠ b → (TX8 a).2.1 ≠ (TX8 b).2.1 := by decide +kernel
theorem tyX8_ok : ∀ k, k < 2 → parseFieldDescriptor (TX8 k).2.2.1 = some (tyX8 k) := by decide +kernel
abbrev cX8_init : ByteArray := prog_10_method_1_code
def yX8_init : MethodName := ⟨RX8, "<init>", "(II)V"⟩
abbrev cX8_weightOf : ByteArray := prog_10_method_2_code
def yX8_weightOf : MethodName := ⟨RX8, "weightOf", "(III)I"⟩
abbrev cX8_pay : ByteArray := prog_10_method_3_code
def yX8_pay : MethodName := ⟨RX8, "pay", "()I"⟩
abbrev cX8_fail : ByteArray := prog_10_method_4_code
def yX8_fail : MethodName := ⟨RX8, "fail", "()V"⟩
def RX9 : String := "OncePerRoad$Told"
def TX9 : u_T := fun k => match k with
  | 0 => ("OncePerRoad$Carrier", "kind", "I", true)
  | _ => ("OncePerRoad$Carrier", "figure", "I", true)
def tyX9 : Nat → FieldType := fun k => match k with
  | 0 => .int
  | _ => .int
abbrev wsX90 : List Cond := u_ws RX9 TX9 2
theorem nmX9 : ∀ a, a < 2 → ∀ b, b < 2 → a ≠ b → (TX9 a).2.1 ≠ (TX9 b).2.1 := by decide +kernel
theorem tyX9_ok : ∀ k, k < 2 → parseFieldDescriptor (TX9 k).2.2.1 = some (tyX9 k) := by decide +kernel
abbrev cX9_init : ByteArray := prog_11_method_1_code
def yX9_init : MethodName := ⟨RX9, "<init>", "(II)V"⟩
abbrev cX9_mostRoads : ByteArray := prog_11_method_2_code
def yX9_mostRoads : MethodName := ⟨RX9, "mostRoads", "()I"⟩
abbrev cX9_pay : ByteArray := prog_11_method_3_code
def yX9_pay : MethodName := ⟨RX9, "pay", "()I"⟩
def RX10 : String := "OncePerRoad$Way"
def TX10 : u_T := fun k => match k with
  | 0 => ("OncePerRoad$Way", "roads", "[I", true)
  | 1 => ("OncePerRoad$Way", "tried", "[I", true)
  | 2 => ("OncePerRoad$Way", "size", "I", false)
  | 3 => ("OncePerRoad$Way", "weight", "I", false)
  | 4 => ("OncePerRoad$Way", "land", "LOncePerRoad$Land;", false)
  | 5 => ("OncePerRoad$Way", "carrier", "LOncePerRoad$Carrier;", false)
  | 6 => ("OncePerRoad$Way", "good", "I", false)
  | 7 => ("OncePerRoad$Way", "start", "I", false)
  | _ => ("OncePerRoad$Way", "goal", "I", false)
def tyX10 : Nat → FieldType := fun k => match k with
  | 0 => .array .int
  | 1 => .array .int
  | 2 => .int
  | 3 => .int
  | 4 => .object "OncePerRoad$Land"
  | 5 => .object "OncePerRoad$Carrier"
  | 6 => .int
  | 7 => .int
  | _ => .int
abbrev wsX100 : List Cond := u_ws RX10 TX10 9
theorem nmX10 : ∀ a, a < 9 → ∀ b, b < 9 → a ≠ b → (TX10 a).2.1 ≠ (TX10 b).2.1 := by decide +kernel
theorem tyX10_ok : ∀ k, k < 9 → parseFieldDescriptor (TX10 k).2.2.1 = some (tyX10 k) := by decide +kernel
abbrev cX10_init : ByteArray := prog_12_method_1_code
def yX10_init : MethodName := ⟨RX10, "<init>", "()V"⟩
abbrev cX10_find : ByteArray := prog_12_method_2_code
def yX10_find : MethodName := ⟨RX10, "find", "(LOncePerRoad$Land;IIII)Z"⟩
abbrev cX10_extend : ByteArray := prog_12_method_3_code
def yX10_extend : MethodName := ⟨RX10, "extend", "(IIII)V"⟩
abbrev cX10_length : ByteArray := prog_12_method_4_code
def yX10_length : MethodName := ⟨RX10, "length", "()I"⟩
abbrev cX10_leaveNicks : ByteArray := prog_12_method_5_code
def yX10_leaveNicks : MethodName := ⟨RX10, "leaveNicks", "()V"⟩
def RX11 : String := "OncePerRoad"
def TX11 : u_T := fun k => match k with
  | 0 => ("OncePerRoad", "now", "LOncePerRoad$Land;", true)
  | 1 => ("OncePerRoad", "mind", "LOncePerRoad$Land;", true)
  | 2 => ("OncePerRoad", "pictured", "LOncePerRoad$Land;", true)
  | 3 => ("OncePerRoad", "isPictured", "Z", false)
  | 4 => ("OncePerRoad", "trip", "LOncePerRoad$Way;", true)
  | 5 => ("OncePerRoad", "holds", "[I", true)
  | 6 => ("OncePerRoad", "kept", "[LOncePerRoad$Carrier;", true)
  | 7 => ("OncePerRoad", "rows", "[LOncePerRoad$Row;", true)
  | _ => ("OncePerRoad", "leastMilesOfOrders", "I", false)
def tyX11 : Nat → FieldType := fun k => match k with
  | 0 => .object "OncePerRoad$Land"
  | 1 => .object "OncePerRoad$Land"
  | 2 => .object "OncePerRoad$Land"
  | 3 => .boolean
  | 4 => .object "OncePerRoad$Way"
  | 5 => .array .int
  | 6 => .array (.object "OncePerRoad$Carrier")
  | 7 => .array (.object "OncePerRoad$Row")
  | _ => .int
abbrev wsX110 : List Cond := u_ws RX11 TX11 9
theorem nmX11 : ∀ a, a < 9 → ∀ b, b < 9 → a ≠ b → (TX11 a).2.1 ≠ (TX11 b).2.1 := by decide +kernel
theorem tyX11_ok : ∀ k, k < 9 → parseFieldDescriptor (TX11 k).2.2.1 = some (tyX11 k) := by decide +kernel
abbrev cX11_init : ByteArray := prog_1_method_1_code
def yX11_init : MethodName := ⟨RX11, "<init>", "()V"⟩
abbrev cX11_land : ByteArray := prog_1_method_2_code
def yX11_land : MethodName := ⟨RX11, "land", "(I)I"⟩
abbrev cX11_road : ByteArray := prog_1_method_3_code
def yX11_road : MethodName := ⟨RX11, "road", "(II)I"⟩
abbrev cX11_carrier : ByteArray := prog_1_method_4_code
def yX11_carrier : MethodName := ⟨RX11, "carrier", "(II)I"⟩
abbrev cX11_hires : ByteArray := prog_1_method_5_code
def yX11_hires : MethodName := ⟨RX11, "hires", "(I)I"⟩
abbrev cX11_nick : ByteArray := prog_1_method_6_code
def yX11_nick : MethodName := ⟨RX11, "nick", "(III)I"⟩
abbrev cX11_way : ByteArray := prog_1_method_7_code
def yX11_way : MethodName := ⟨RX11, "way", "(IIIII)I"⟩
abbrev cX11_step : ByteArray := prog_1_method_8_code
def yX11_step : MethodName := ⟨RX11, "step", "(IIIII)I"⟩
abbrev cX11_go : ByteArray := prog_1_method_9_code
def yX11_go : MethodName := ⟨RX11, "go", "(IIII)I"⟩
abbrev cX11_far : ByteArray := prog_1_method_10_code
def yX11_far : MethodName := ⟨RX11, "far", "(III)I"⟩
abbrev cX11_many : ByteArray := prog_1_method_11_code
def yX11_many : MethodName := ⟨RX11, "many", "(IIII)I"⟩
abbrev cX11_served : ByteArray := prog_1_method_12_code
def yX11_served : MethodName := ⟨RX11, "served", "(IIII)I"⟩
abbrev cX11_spite : ByteArray := prog_1_method_13_code
def yX11_spite : MethodName := ⟨RX11, "spite", "(IIII)I"⟩
abbrev cX11_worth : ByteArray := prog_1_method_14_code
def yX11_worth : MethodName := ⟨RX11, "worth", "(IIII)I"⟩
abbrev cX11_newly : ByteArray := prog_1_method_15_code
def yX11_newly : MethodName := ⟨RX11, "newly", "(IIII)I"⟩
abbrev cX11_round : ByteArray := prog_1_method_16_code
def yX11_round : MethodName := ⟨RX11, "round", "(II)I"⟩
abbrev cX11_often : ByteArray := prog_1_method_17_code
def yX11_often : MethodName := ⟨RX11, "often", "(IIII)I"⟩
abbrev cX11_run : ByteArray := prog_1_method_18_code
def yX11_run : MethodName := ⟨RX11, "run", "(II)I"⟩
abbrev cX11_orders : ByteArray := prog_1_method_19_code
def yX11_orders : MethodName := ⟨RX11, "orders", "(II)I"⟩
abbrev cX11_seeded : ByteArray := prog_1_method_20_code
def yX11_seeded : MethodName := ⟨RX11, "seeded", "(II)I"⟩
abbrev cX11_judge : ByteArray := prog_1_method_21_code
def yX11_judge : MethodName := ⟨RX11, "judge", "(I)I"⟩
abbrev cX11_image : ByteArray := prog_1_method_22_code
def yX11_image : MethodName := ⟨RX11, "image", "()I"⟩
abbrev cX11_restore : ByteArray := prog_1_method_23_code
def yX11_restore : MethodName := ⟨RX11, "restore", "()I"⟩
abbrev cX11_count : ByteArray := prog_1_method_24_code
def yX11_count : MethodName := ⟨RX11, "count", "(I)I"⟩
abbrev cX11_keep : ByteArray := prog_1_method_25_code
def yX11_keep : MethodName := ⟨RX11, "keep", "(IIII)I"⟩
abbrev cX11_row : ByteArray := prog_1_method_26_code
def yX11_row : MethodName := ⟨RX11, "row", "(III)I"⟩
abbrev cX11_put : ByteArray := prog_1_method_27_code
def yX11_put : MethodName := ⟨RX11, "put", "(III)I"⟩
abbrev cX11_element : ByteArray := prog_1_method_28_code
def yX11_element : MethodName := ⟨RX11, "element", "(II)J"⟩
abbrev cX11_copy : ByteArray := prog_1_method_29_code
def yX11_copy : MethodName := ⟨RX11, "copy", "(IIIII)I"⟩
abbrev cX11_wage : ByteArray := prog_1_method_30_code
def yX11_wage : MethodName := ⟨RX11, "wage", "(I)I"⟩
abbrev cX11_toss : ByteArray := prog_1_method_31_code
def yX11_toss : MethodName := ⟨RX11, "toss", "(I)I"⟩
abbrev cX11_isOneOf : ByteArray := prog_1_method_32_code
def yX11_isOneOf : MethodName := ⟨RX11, "isOneOf", "(II)Z"⟩
abbrev cX11_contains : ByteArray := prog_1_method_33_code
def yX11_contains : MethodName := ⟨RX11, "contains", "(II)Z"⟩
abbrev cX11_nickOf : ByteArray := prog_1_method_34_code
def yX11_nickOf : MethodName := ⟨RX11, "nickOf", "(II)J"⟩
abbrev cX11_isErrand : ByteArray := prog_1_method_35_code
def yX11_isErrand : MethodName := ⟨RX11, "isErrand", "(III)Z"⟩
abbrev cX11_isCarriage : ByteArray := prog_1_method_36_code
def yX11_isCarriage : MethodName := ⟨RX11, "isCarriage", "(LOncePerRoad$Land;IIII)Z"⟩
abbrev cX11_rowRefusal : ByteArray := prog_1_method_37_code
def yX11_rowRefusal : MethodName := ⟨RX11, "rowRefusal", "(IZ)I"⟩
abbrev cX11_carrierRefusal : ByteArray := prog_1_method_38_code
def yX11_carrierRefusal : MethodName := ⟨RX11, "carrierRefusal", "(I)I"⟩
abbrev cX11_carriagesRefusal : ByteArray := prog_1_method_39_code
def yX11_carriagesRefusal : MethodName := ⟨RX11, "carriagesRefusal", "(II)I"⟩
abbrev cX11_milesGone : ByteArray := prog_1_method_40_code
def yX11_milesGone : MethodName := ⟨RX11, "milesGone", "(LOncePerRoad$Land;IIII)I"⟩
abbrev cX11_milesOfCarriage : ByteArray := prog_1_method_41_code
def yX11_milesOfCarriage : MethodName := ⟨RX11, "milesOfCarriage", "(LOncePerRoad$Row;I)I"⟩
abbrev cX11_ordersOfAll : ByteArray := prog_1_method_42_code
def yX11_ordersOfAll : MethodName := ⟨RX11, "ordersOfAll", "(LOncePerRoad$Row;III)I"⟩
abbrev cX11_nextSeed : ByteArray := prog_1_method_43_code
def yX11_nextSeed : MethodName := ⟨RX11, "nextSeed", "(I)I"⟩
abbrev cX11_draw : ByteArray := prog_1_method_44_code
def yX11_draw : MethodName := ⟨RX11, "draw", "(II)I"⟩
abbrev cX11_digitsBehind : ByteArray := prog_1_method_45_code
def yX11_digitsBehind : MethodName := ⟨RX11, "digitsBehind", "(I)I"⟩
abbrev cX11_firstBrokenByte : ByteArray := prog_1_method_46_code
def yX11_firstBrokenByte : MethodName := ⟨RX11, "firstBrokenByte", "(LOncePerRoad$Row;)I"⟩
abbrev cX11_applyStatement : ByteArray := prog_1_method_47_code
def yX11_applyStatement : MethodName := ⟨RX11, "applyStatement", "(LOncePerRoad$Row;I)Z"⟩
abbrev cX11_carrierOf : ByteArray := prog_1_method_48_code
def yX11_carrierOf : MethodName := ⟨RX11, "carrierOf", "(II)LOncePerRoad$Carrier;"⟩
def RX12 : String := "OncePerRoadModel"
def TX12 : u_T := fun k => match k with
  | 0 => ("OncePerRoadModel", "s", "[I", true)
  | 1 => ("OncePerRoadModel", "image", "[I", true)
  | 2 => ("OncePerRoadModel", "read", "[I", true)
  | 3 => ("OncePerRoadModel", "mind", "[I", true)
  | 4 => ("OncePerRoadModel", "kept", "[I", true)
  | 5 => ("OncePerRoadModel", "sort", "[I", true)
  | 6 => ("OncePerRoadModel", "size", "[I", true)
  | 7 => ("OncePerRoadModel", "element", "[I", true)
  | 8 => ("OncePerRoadModel", "keptKind", "[I", true)
  | 9 => ("OncePerRoadModel", "keptFigure", "[I", true)
  | 10 => ("OncePerRoadModel", "hasImage", "Z", false)
  | 11 => ("OncePerRoadModel", "thrown", "I", false)
  | 12 => ("OncePerRoadModel", "tried", "[I", true)
  | 13 => ("OncePerRoadModel", "way", "[I", true)
  | 14 => ("OncePerRoadModel", "wayLoads", "[I", true)
  | 15 => ("OncePerRoadModel", "triedLoads", "[I", true)
  | 16 => ("OncePerRoadModel", "wayWeight", "I", false)
  | 17 => ("OncePerRoadModel", "wayLong", "I", false)
  | 18 => ("OncePerRoadModel", "wayMiles", "I", false)
  | 19 => ("OncePerRoadModel", "pos", "I", false)
  | 20 => ("OncePerRoadModel", "base", "I", false)
  | 21 => ("OncePerRoadModel", "end", "I", false)
  | 22 => ("OncePerRoadModel", "numbers", "[I", true)
  | 23 => ("OncePerRoadModel", "miles", "[I", true)
  | 24 => ("OncePerRoadModel", "barSet", "I", false)
  | 25 => ("OncePerRoadModel", "leastRound", "I", false)
  | 26 => ("OncePerRoadModel", "line", "[I", true)
  | 27 => ("OncePerRoadModel", "orders", "I", false)
  | 28 => ("OncePerRoadModel", "leastMiles", "I", false)
  | _ => ("OncePerRoadModel", "seed", "I", false)
def tyX12 : Nat → FieldType := fun k => match k with
  | 0 => .array .int
  | 1 => .array .int
  | 2 => .array .int
  | 3 => .array .int
  | 4 => .array .int
  | 5 => .array .int
  | 6 => .array .int
  | 7 => .array .int
  | 8 => .array .int
  | 9 => .array .int
  | 10 => .boolean
  | 11 => .int
  | 12 => .array .int
  | 13 => .array .int
  | 14 => .array .int
  | 15 => .array .int
  | 16 => .int
  | 17 => .int
  | 18 => .int
  | 19 => .int
  | 20 => .int
  | 21 => .int
  | 22 => .array .int
  | 23 => .array .int
  | 24 => .int
  | 25 => .int
  | 26 => .array .int
  | 27 => .int
  | 28 => .int
  | _ => .int
abbrev wsX120 : List Cond := u_ws RX12 TX12 30
theorem nmX12 : ∀ a, a < 30 → ∀ b, b < 30 → a ≠ b → (TX12 a).2.1 ≠ (TX12 b).2.1 := by decide +kernel
theorem tyX12_ok : ∀ k, k < 30 → parseFieldDescriptor (TX12 k).2.2.1 = some (tyX12 k) := by decide +kernel
abbrev cX12_init : ByteArray := prog_14_method_1_code
def yX12_init : MethodName := ⟨RX12, "<init>", "()V"⟩
abbrev cX12_thrown : ByteArray := prog_14_method_2_code
def yX12_thrown : MethodName := ⟨RX12, "thrown", "()I"⟩
abbrev cX12_isIn : ByteArray := prog_14_method_3_code
def yX12_isIn : MethodName := ⟨RX12, "isIn", "(JJJ)Z"⟩
abbrev cX12_isShelf : ByteArray := prog_14_method_4_code
def yX12_isShelf : MethodName := ⟨RX12, "isShelf", "(I)Z"⟩
abbrev cX12_isPlace : ByteArray := prog_14_method_5_code
def yX12_isPlace : MethodName := ⟨RX12, "isPlace", "(I)Z"⟩
abbrev cX12_isRoad : ByteArray := prog_14_method_6_code
def yX12_isRoad : MethodName := ⟨RX12, "isRoad", "(I)Z"⟩
abbrev cX12_isCarrier : ByteArray := prog_14_method_7_code
def yX12_isCarrier : MethodName := ⟨RX12, "isCarrier", "(I)Z"⟩
abbrev cX12_isGood : ByteArray := prog_14_method_8_code
def yX12_isGood : MethodName := ⟨RX12, "isGood", "(I)Z"⟩
abbrev cX12_areTwo : ByteArray := prog_14_method_9_code
def yX12_areTwo : MethodName := ⟨RX12, "areTwo", "(II)Z"⟩
abbrev cX12_get : ByteArray := prog_14_method_10_code
def yX12_get : MethodName := ⟨RX12, "get", "(II)I"⟩
abbrev cX12_puts : ByteArray := prog_14_method_11_code
def yX12_puts : MethodName := ⟨RX12, "puts", "(III)V"⟩
abbrev cX12_kind : ByteArray := prog_14_method_12_code
def yX12_kind : MethodName := ⟨RX12, "kind", "(I)I"⟩
abbrev cX12_figure : ByteArray := prog_14_method_13_code
def yX12_figure : MethodName := ⟨RX12, "figure", "(I)I"⟩
abbrev cX12_lays : ByteArray := prog_14_method_14_code
def yX12_lays : MethodName := ⟨RX12, "lays", "([I[I)V"⟩
abbrev cX12_begins : ByteArray := prog_14_method_15_code
def yX12_begins : MethodName := ⟨RX12, "begins", "()V"⟩
abbrev cX12_ends : ByteArray := prog_14_method_16_code
def yX12_ends : MethodName := ⟨RX12, "ends", "()V"⟩
abbrev cX12_bits : ByteArray := prog_14_method_17_code
def yX12_bits : MethodName := ⟨RX12, "bits", "(I)I"⟩
abbrev cX12_to : ByteArray := prog_14_method_18_code
def yX12_to : MethodName := ⟨RX12, "to", "(II)I"⟩
abbrev cX12_isFree : ByteArray := prog_14_method_19_code
def yX12_isFree : MethodName := ⟨RX12, "isFree", "(II)Z"⟩
abbrev cX12_loads : ByteArray := prog_14_method_20_code
def yX12_loads : MethodName := ⟨RX12, "loads", "(IIII)I"⟩
abbrev cX12_weightOf : ByteArray := prog_14_method_21_code
def yX12_weightOf : MethodName := ⟨RX12, "weightOf", "(III)I"⟩
abbrev cX12_tries : ByteArray := prog_14_method_22_code
def yX12_tries : MethodName := ⟨RX12, "tries", "(IIIIIIII)V"⟩
abbrev cX12_findsWay : ByteArray := prog_14_method_23_code
def yX12_findsWay : MethodName := ⟨RX12, "findsWay", "(IIII)Z"⟩
abbrev cX12_goes : ByteArray := prog_14_method_24_code
def yX12_goes : MethodName := ⟨RX12, "goes", "(IIII)Z"⟩
abbrev cX12_here : ByteArray := prog_14_method_25_code
def yX12_here : MethodName := ⟨RX12, "here", "()I"⟩
abbrev cX12_readsDigits : ByteArray := prog_14_method_26_code
def yX12_readsDigits : MethodName := ⟨RX12, "readsDigits", "(I)Z"⟩
abbrev cX12_readsStatement : ByteArray := prog_14_method_27_code
def yX12_readsStatement : MethodName := ⟨RX12, "readsStatement", "()Z"⟩
abbrev cX12_adds : ByteArray := prog_14_method_28_code
def yX12_adds : MethodName := ⟨RX12, "adds", "(II)Z"⟩
abbrev cX12_layRoad : ByteArray := prog_14_method_29_code
def yX12_layRoad : MethodName := ⟨RX12, "layRoad", "(III)V"⟩
abbrev cX12_comesTold : ByteArray := prog_14_method_30_code
def yX12_comesTold : MethodName := ⟨RX12, "comesTold", "(I)Z"⟩
abbrev cX12_wrongRow : ByteArray := prog_14_method_31_code
def yX12_wrongRow : MethodName := ⟨RX12, "wrongRow", "(II)I"⟩
abbrev cX12_land : ByteArray := prog_14_method_32_code
def yX12_land : MethodName := ⟨RX12, "land", "(I)I"⟩
abbrev cX12_road : ByteArray := prog_14_method_33_code
def yX12_road : MethodName := ⟨RX12, "road", "(II)I"⟩
abbrev cX12_carrier : ByteArray := prog_14_method_34_code
def yX12_carrier : MethodName := ⟨RX12, "carrier", "(II)I"⟩
abbrev cX12_wrongKept : ByteArray := prog_14_method_35_code
def yX12_wrongKept : MethodName := ⟨RX12, "wrongKept", "(I)I"⟩
abbrev cX12_hires : ByteArray := prog_14_method_36_code
def yX12_hires : MethodName := ⟨RX12, "hires", "(I)I"⟩
abbrev cX12_nick : ByteArray := prog_14_method_37_code
def yX12_nick : MethodName := ⟨RX12, "nick", "(III)I"⟩
abbrev cX12_isAsked : ByteArray := prog_14_method_38_code
def yX12_isAsked : MethodName := ⟨RX12, "isAsked", "(IIII)Z"⟩
abbrev cX12_way : ByteArray := prog_14_method_39_code
def yX12_way : MethodName := ⟨RX12, "way", "(IIIII)I"⟩
abbrev cX12_step : ByteArray := prog_14_method_40_code
def yX12_step : MethodName := ⟨RX12, "step", "(IIIII)I"⟩
abbrev cX12_go : ByteArray := prog_14_method_41_code
def yX12_go : MethodName := ⟨RX12, "go", "(IIII)I"⟩
abbrev cX12_farOf : ByteArray := prog_14_method_42_code
def yX12_farOf : MethodName := ⟨RX12, "farOf", "(III)I"⟩
abbrev cX12_isGoodWay : ByteArray := prog_14_method_43_code
def yX12_isGoodWay : MethodName := ⟨RX12, "isGoodWay", "(III)Z"⟩
abbrev cX12_far : ByteArray := prog_14_method_44_code
def yX12_far : MethodName := ⟨RX12, "far", "(III)I"⟩
abbrev cX12_leads : ByteArray := prog_14_method_45_code
def yX12_leads : MethodName := ⟨RX12, "leads", "(III)I"⟩
abbrev cX12_manyOf : ByteArray := prog_14_method_46_code
def yX12_manyOf : MethodName := ⟨RX12, "manyOf", "(IIII)I"⟩
abbrev cX12_many : ByteArray := prog_14_method_47_code
def yX12_many : MethodName := ⟨RX12, "many", "(IIII)I"⟩
abbrev cX12_canServe : ByteArray := prog_14_method_48_code
def yX12_canServe : MethodName := ⟨RX12, "canServe", "(III)Z"⟩
abbrev cX12_served : ByteArray := prog_14_method_49_code
def yX12_served : MethodName := ⟨RX12, "served", "(IIII)I"⟩
abbrev cX12_spite : ByteArray := prog_14_method_50_code
def yX12_spite : MethodName := ⟨RX12, "spite", "(IIII)I"⟩
abbrev cX12_worth : ByteArray := prog_14_method_51_code
def yX12_worth : MethodName := ⟨RX12, "worth", "(IIII)I"⟩
abbrev cX12_newly : ByteArray := prog_14_method_52_code
def yX12_newly : MethodName := ⟨RX12, "newly", "(IIII)I"⟩
abbrev cX12_roundFrom : ByteArray := prog_14_method_53_code
def yX12_roundFrom : MethodName := ⟨RX12, "roundFrom", "(IIIIII)V"⟩
abbrev cX12_round : ByteArray := prog_14_method_54_code
def yX12_round : MethodName := ⟨RX12, "round", "(II)I"⟩
abbrev cX12_often : ByteArray := prog_14_method_55_code
def yX12_often : MethodName := ⟨RX12, "often", "(IIII)I"⟩
abbrev cX12_wrongCarriages : ByteArray := prog_14_method_56_code
def yX12_wrongCarriages : MethodName := ⟨RX12, "wrongCarriages", "(I)I"⟩
abbrev cX12_told : ByteArray := prog_14_method_57_code
def yX12_told : MethodName := ⟨RX12, "told", "(II)I"⟩
abbrev cX12_goesTold : ByteArray := prog_14_method_58_code
def yX12_goesTold : MethodName := ⟨RX12, "goesTold", "(II)Z"⟩
abbrev cX12_wrongAsk : ByteArray := prog_14_method_59_code
def yX12_wrongAsk : MethodName := ⟨RX12, "wrongAsk", "(II)I"⟩
abbrev cX12_run : ByteArray := prog_14_method_60_code
def yX12_run : MethodName := ⟨RX12, "run", "(II)I"⟩
abbrev cX12_goesBy : ByteArray := prog_14_method_61_code
def yX12_goesBy : MethodName := ⟨RX12, "goesBy", "(I)V"⟩
abbrev cX12_ordersFrom : ByteArray := prog_14_method_62_code
def yX12_ordersFrom : MethodName := ⟨RX12, "ordersFrom", "(III)V"⟩
abbrev cX12_orders : ByteArray := prog_14_method_63_code
def yX12_orders : MethodName := ⟨RX12, "orders", "(II)I"⟩
abbrev cX12_drawn : ByteArray := prog_14_method_64_code
def yX12_drawn : MethodName := ⟨RX12, "drawn", "(I)I"⟩
abbrev cX12_seeded : ByteArray := prog_14_method_65_code
def yX12_seeded : MethodName := ⟨RX12, "seeded", "(II)I"⟩
abbrev cX12_wrongTwo : ByteArray := prog_14_method_66_code
def yX12_wrongTwo : MethodName := ⟨RX12, "wrongTwo", "(II)I"⟩
abbrev cX12_judge : ByteArray := prog_14_method_67_code
def yX12_judge : MethodName := ⟨RX12, "judge", "(I)I"⟩
abbrev cX12_image : ByteArray := prog_14_method_68_code
def yX12_image : MethodName := ⟨RX12, "image", "()I"⟩
abbrev cX12_restore : ByteArray := prog_14_method_69_code
def yX12_restore : MethodName := ⟨RX12, "restore", "()I"⟩
abbrev cX12_count : ByteArray := prog_14_method_70_code
def yX12_count : MethodName := ⟨RX12, "count", "(I)I"⟩
abbrev cX12_wageBy : ByteArray := prog_14_method_71_code
def yX12_wageBy : MethodName := ⟨RX12, "wageBy", "(II)I"⟩
abbrev cX12_keep : ByteArray := prog_14_method_72_code
def yX12_keep : MethodName := ⟨RX12, "keep", "(IIII)I"⟩
abbrev cX12_row : ByteArray := prog_14_method_73_code
def yX12_row : MethodName := ⟨RX12, "row", "(III)I"⟩
abbrev cX12_put : ByteArray := prog_14_method_74_code
def yX12_put : MethodName := ⟨RX12, "put", "(III)I"⟩
abbrev cX12_element : ByteArray := prog_14_method_75_code
def yX12_element : MethodName := ⟨RX12, "element", "(II)J"⟩
abbrev cX12_copy : ByteArray := prog_14_method_76_code
def yX12_copy : MethodName := ⟨RX12, "copy", "(IIIII)I"⟩
abbrev cX12_wage : ByteArray := prog_14_method_77_code
def yX12_wage : MethodName := ⟨RX12, "wage", "(I)I"⟩
abbrev cX12_toss : ByteArray := prog_14_method_78_code
def yX12_toss : MethodName := ⟨RX12, "toss", "(I)I"⟩
def RJ6 : String := "java/lang/Integer"
abbrev cJ6_bitCount_0f7a4 : ByteArray := prog_18_method_49_code
def yJ6_bitCount_0f7a4 : MethodName := ⟨RJ6, "bitCount", "(I)I"⟩
def RJ13 : String := "java/lang/Long"
abbrev cJ13_bitCount_95d88 : ByteArray := prog_19_method_50_code
def yJ13_bitCount_95d88 : MethodName := ⟨RJ13, "bitCount", "(J)I"⟩
def RJ0 : String := "java/lang/String"
def RJ10 : String := "java/lang/System"
def RL : String := "OncePerRoadLaw"
abbrev cL_element : ByteArray := method_3_code
def yL_element : MethodName := ⟨RL, "element", "(LOncePerRoad;II[J)I"⟩
abbrev cL_law : ByteArray := code
def yL_law : MethodName := ⟨RL, "law", "([I)Z"⟩
abbrev vwCl : List vw_C := [(RX0, TX0, 2), (RX1, TX1, 2), (RX2, TX2, 10), (RX3, TX3, 2), (RX4, TX4, 2), (RX5, TX5, 2), (RX6, TX6, 2), (RX7, TX7, 3), (RX8, TX8, 2), (RX9, TX9, 2), (RX10, TX10, 9), (RX11, TX11, 9), (RX12, TX12, 30)]
end
section
/-! the tables of the abstract machine: regions, the code of each method with what its instructions reach (by gen.py out of the claim's files) -/
abbrev xE : Type := Nat × Instr × Nat × List Nat
/-- a method: its name, bytes, words of locals, kind of its answer (0 none, 1 int, 2 long, 3 reference) and region, its type, its code, which locals are dead where it is jumped to -/
abbrev xM : Type := MethodName × ByteArray × Nat × Nat × Nat × Option FieldType × List xE × List (Nat × List Nat)
def xM0 : xM := (⟨"", "", ""⟩, ⟨#[]⟩, 0, 0, 0, none, [], [])
def xReg : List (Nat × Nat × Nat × List (Nat × Nat × Nat)) := [(0, 11, 1, [(2, 1, 0), (2, 1, 1), (2, 1, 2), (4, 0, 0), (2, 8, 0), (2, 11, 0), (2, 12, 0), (2, 13, 0), (0, 0, 0)]), (0, 2, 3, [(0, 0, 0), (0, 0, 0), (0, 0, 0), (1, 0, 0), (2, 2, 0), (2, 3, 0), (2, 4, 0), (2, 5, 0), (2, 6, 0), (2, 7, 0)]), (1, 9, 3, []), (1, 9, 3, []), (1, 9, 3, []), (3, 6, 3, [(16, 0, 0)]), (1, 64, 3, []), (1, 6, 3, []), (0, 10, 1, [(2, 9, 0), (2, 10, 0), (0, 0, 0), (0, 0, 0), (3, 1, 0), (3, 16, 0), (0, 0, 0), (0, 0, 0), (0, 0, 0)]), (1, 5, 1, []), (1, 5, 1, []), (1, 8, 1, []), (3, 8, 1, [(16, 0, 0)]), (4, 8, 1, [(14, 0, 0)]), (0, 7, 8, [(2, 15, 0), (0, 0, 0), (0, 0, 0)]), (1, 100, 8, []), (0, 100, 0, [(0, 0, 0), (0, 0, 0)]), (0, 12, 1, [(2, 18, 0), (2, 19, 0), (2, 20, 0), (2, 21, 0), (2, 22, 0), (2, 23, 0), (2, 24, 0), (2, 25, 0), (2, 26, 0), (2, 27, 0), (4, 0, 0), (0, 0, 0), (2, 28, 0), (2, 29, 0), (2, 30, 0), (2, 31, 0), (0, 0, 0), (0, 0, 0), (0, 0, 0), (0, 0, 0), (0, 0, 0), (0, 0, 0), (2, 32, 0), (2, 33, 0), (0, 0, 0), (0, 0, 0), (2, 34, 0), (0, 0, 0), (0, 0, 0), (0, 0, 0)]), (1, 55, 1, []), (1, 55, 1, []), (1, 55, 1, []), (1, 55, 1, []), (1, 8, 1, []), (1, 8, 1, []), (1, 8, 1, []), (1, 800, 1, []), (1, 8, 1, []), (1, 8, 1, []), (1, 6, 1, []), (1, 6, 1, []), (1, 6, 1, []), (1, 6, 1, []), (1, 4, 1, []), (1, 6, 1, []), (1, 5, 1, []), (2, 1, 1, []), (5, 0, 0, [])]
def xk_0 : List xE := [(0, .aload_n 0, 1, []), (1, .getfield 61, 3, [12, 11]), (4, .ireturn, 1, [])]
def xm_0 : xM := (yX12_thrown, cX12_thrown, 1, 1, 0, (Option.some Jvm.ClassFile.FieldType.int), xk_0, [])
def xk_1 : List xE := [(0, .lload_n 0, 1, []), (1, .lload_n 2, 1, []), (2, .lcmp, 1, []), (3, .ifCond .lt 14, 3, [17]), (6, .lload_n 0, 1, []), (7, .lload 4, 2, []), (9, .lcmp, 1, []), (10, .ifCond .gt 7, 3, [17]), (13, .iconst 1, 1, []), (14, .goto 4, 3, [18]), (17, .iconst 0, 1, []), (18, .ireturn, 1, [])]
def xm_1 : xM := (yX12_isIn, cX12_isIn, 6, 1, 0, (Option.some Jvm.ClassFile.FieldType.boolean), xk_1, [])
def xk_2 : List xE := [(0, .iload_n 0, 1, []), (1, .i2l, 1, []), (2, .lconst 0, 1, []), (3, .ldc2_w 65, 3, [7]), (6, .invokestatic 67, 3, [0, 1, 3, 1, 0]), (9, .ireturn, 1, [])]
def xm_2 : xM := (yX12_isShelf, cX12_isShelf, 1, 1, 0, (Option.some Jvm.ClassFile.FieldType.boolean), xk_2, [])
def xk_3 : List xE := [(0, .iload_n 1, 1, []), (1, .i2l, 1, []), (2, .lconst 0, 1, []), (3, .aload_n 0, 1, []), (4, .getfield 9, 3, [12, 0]), (7, .iconst 0, 1, []), (8, .iaload, 1, []), (9, .iconst 1, 1, []), (10, .isub, 1, []), (11, .i2l, 1, []), (12, .invokestatic 67, 3, [0, 1, 3, 1, 0]), (15, .ireturn, 1, [])]
def xm_3 : xM := (yX12_isPlace, cX12_isPlace, 2, 1, 0, (Option.some Jvm.ClassFile.FieldType.boolean), xk_3, [])
def xk_4 : List xE := [(0, .iload_n 1, 1, []), (1, .i2l, 1, []), (2, .lconst 0, 1, []), (3, .aload_n 0, 1, []), (4, .getfield 9, 3, [12, 0]), (7, .iconst 1, 1, []), (8, .iaload, 1, []), (9, .iconst 1, 1, []), (10, .isub, 1, []), (11, .i2l, 1, []), (12, .invokestatic 67, 3, [0, 1, 3, 1, 0]), (15, .ireturn, 1, [])]
def xm_4 : xM := (yX12_isRoad, cX12_isRoad, 2, 1, 0, (Option.some Jvm.ClassFile.FieldType.boolean), xk_4, [])
def xk_5 : List xE := [(0, .iload_n 1, 1, []), (1, .i2l, 1, []), (2, .lconst 0, 1, []), (3, .aload_n 0, 1, []), (4, .getfield 9, 3, [12, 0]), (7, .iconst 2, 1, []), (8, .iaload, 1, []), (9, .iconst 1, 1, []), (10, .isub, 1, []), (11, .i2l, 1, []), (12, .invokestatic 67, 3, [0, 1, 3, 1, 0]), (15, .ireturn, 1, [])]
def xm_5 : xM := (yX12_isCarrier, cX12_isCarrier, 2, 1, 0, (Option.some Jvm.ClassFile.FieldType.boolean), xk_5, [])
def xk_6 : List xE := [(0, .iload_n 0, 1, []), (1, .i2l, 1, []), (2, .lconst 0, 1, []), (3, .ldc2_w 71, 3, [3]), (6, .invokestatic 67, 3, [0, 1, 3, 1, 0]), (9, .ireturn, 1, [])]
def xm_6 : xM := (yX12_isGood, cX12_isGood, 1, 1, 0, (Option.some Jvm.ClassFile.FieldType.boolean), xk_6, [])
def xk_7 : List xE := [(0, .aload_n 0, 1, []), (1, .iload_n 1, 1, []), (2, .invokevirtual 73, 3, [1, 3, 12, 1, 1, 0]), (5, .ifCond .eq 20, 3, [25]), (8, .aload_n 0, 1, []), (9, .iload_n 2, 1, []), (10, .invokevirtual 73, 3, [1, 3, 12, 1, 1, 0]), (13, .ifCond .eq 12, 3, [25]), (16, .iload_n 1, 1, []), (17, .iload_n 2, 1, []), (18, .if_icmp .eq 7, 3, [25]), (21, .iconst 1, 1, []), (22, .goto 4, 3, [26]), (25, .iconst 0, 1, []), (26, .ireturn, 1, [])]
def xm_7 : xM := (yX12_areTwo, cX12_areTwo, 3, 1, 0, (Option.some Jvm.ClassFile.FieldType.boolean), xk_7, [])
def xk_8 : List xE := [(0, .aload_n 0, 1, []), (1, .getfield 9, 3, [12, 0]), (4, .iconst 3, 1, []), (5, .iconst 4, 1, []), (6, .iload_n 1, 1, []), (7, .imul, 1, []), (8, .iadd, 1, []), (9, .iload_n 2, 1, []), (10, .iadd, 1, []), (11, .iaload, 1, []), (12, .ireturn, 1, [])]
def xm_8 : xM := (yX12_get, cX12_get, 3, 1, 0, (Option.some Jvm.ClassFile.FieldType.int), xk_8, [])
def xk_9 : List xE := [(0, .aload_n 0, 1, []), (1, .getfield 9, 3, [12, 0]), (4, .iconst 3, 1, []), (5, .iconst 4, 1, []), (6, .iload_n 1, 1, []), (7, .imul, 1, []), (8, .iadd, 1, []), (9, .iload_n 2, 1, []), (10, .iadd, 1, []), (11, .iload_n 3, 1, []), (12, .iastore, 1, []), (13, .return_, 1, [])]
def xm_9 : xM := (yX12_puts, cX12_puts, 4, 0, 0, (Option.none : Option Jvm.ClassFile.FieldType), xk_9, [])
def xk_10 : List xE := [(0, .aload_n 0, 1, []), (1, .getfield 9, 3, [12, 0]), (4, .bipush 43, 2, []), (6, .iconst 2, 1, []), (7, .iload_n 1, 1, []), (8, .imul, 1, []), (9, .iadd, 1, []), (10, .iaload, 1, []), (11, .ireturn, 1, [])]
def xm_10 : xM := (yX12_kind, cX12_kind, 2, 1, 0, (Option.some Jvm.ClassFile.FieldType.int), xk_10, [])
def xk_11 : List xE := [(0, .aload_n 0, 1, []), (1, .getfield 9, 3, [12, 0]), (4, .bipush 43, 2, []), (6, .iconst 2, 1, []), (7, .iload_n 1, 1, []), (8, .imul, 1, []), (9, .iadd, 1, []), (10, .iconst 1, 1, []), (11, .iadd, 1, []), (12, .iaload, 1, []), (13, .ireturn, 1, [])]
def xm_11 : xM := (yX12_figure, cX12_figure, 2, 1, 0, (Option.some Jvm.ClassFile.FieldType.int), xk_11, [])
def xk_12 : List xE := [(0, .iconst 0, 1, []), (1, .istore_n 2, 1, []), (2, .iload_n 2, 1, []), (3, .bipush 55, 2, []), (5, .if_icmp .ge 15, 3, [20]), (8, .aload_n 1, 1, []), (9, .iload_n 2, 1, []), (10, .aload_n 0, 1, []), (11, .iload_n 2, 1, []), (12, .iaload, 1, []), (13, .iastore, 1, []), (14, .iinc 2 1, 3, []), (17, .goto (-15), 3, [2]), (20, .return_, 1, [])]
def xm_12 : xM := (yX12_lays, cX12_lays, 3, 0, 0, (Option.none : Option Jvm.ClassFile.FieldType), xk_12, [(2, [])])
def xk_13 : List xE := [(0, .aload_n 0, 1, []), (1, .getfield 9, 3, [12, 0]), (4, .aload_n 0, 1, []), (5, .getfield 19, 3, [12, 3]), (8, .invokestatic 77, 3, [0, 12, 2, 0, 0]), (11, .return_, 1, [])]
def xm_13 : xM := (yX12_begins, cX12_begins, 1, 0, 0, (Option.none : Option Jvm.ClassFile.FieldType), xk_13, [])
def xk_14 : List xE := [(0, .aload_n 0, 1, []), (1, .getfield 19, 3, [12, 3]), (4, .aload_n 0, 1, []), (5, .getfield 9, 3, [12, 0]), (8, .invokestatic 77, 3, [0, 12, 2, 0, 0]), (11, .return_, 1, [])]
def xm_14 : xM := (yX12_ends, cX12_ends, 1, 0, 0, (Option.none : Option Jvm.ClassFile.FieldType), xk_14, [])
def xk_15 : List xE := [(0, .iconst 0, 1, []), (1, .istore_n 1, 1, []), (2, .iload_n 0, 1, []), (3, .istore_n 2, 1, []), (4, .iload_n 2, 1, []), (5, .ifCond .le 16, 3, [21]), (8, .iload_n 1, 1, []), (9, .iload_n 2, 1, []), (10, .iconst 1, 1, []), (11, .iand, 1, []), (12, .iadd, 1, []), (13, .istore_n 1, 1, []), (14, .iload_n 2, 1, []), (15, .iconst 1, 1, []), (16, .ishr, 1, []), (17, .istore_n 2, 1, []), (18, .goto (-14), 3, [4]), (21, .iload_n 1, 1, []), (22, .ireturn, 1, [])]
def xm_15 : xM := (yX12_bits, cX12_bits, 3, 1, 0, (Option.some Jvm.ClassFile.FieldType.int), xk_15, [(4, [0])])
def xk_16 : List xE := [(0, .aload_n 0, 1, []), (1, .iload_n 1, 1, []), (2, .iconst 0, 1, []), (3, .invokevirtual 81, 3, [1, 8, 12, 2, 1, 0]), (6, .iload_n 2, 1, []), (7, .if_icmp .ne 12, 3, [19]), (10, .aload_n 0, 1, []), (11, .iload_n 1, 1, []), (12, .iconst 1, 1, []), (13, .invokevirtual 81, 3, [1, 8, 12, 2, 1, 0]), (16, .goto 24, 3, [40]), (19, .aload_n 0, 1, []), (20, .iload_n 1, 1, []), (21, .iconst 1, 1, []), (22, .invokevirtual 81, 3, [1, 8, 12, 2, 1, 0]), (25, .iload_n 2, 1, []), (26, .if_icmp .ne 12, 3, [38]), (29, .aload_n 0, 1, []), (30, .iload_n 1, 1, []), (31, .iconst 0, 1, []), (32, .invokevirtual 81, 3, [1, 8, 12, 2, 1, 0]), (35, .goto 5, 3, [40]), (38, .bipush (-4), 2, []), (40, .ireturn, 1, [])]
def xm_16 : xM := (yX12_to, cX12_to, 3, 1, 0, (Option.some Jvm.ClassFile.FieldType.int), xk_16, [])
def xk_17 : List xE := [(0, .aload_n 0, 1, []), (1, .iload_n 1, 1, []), (2, .iconst 3, 1, []), (3, .invokevirtual 81, 3, [1, 8, 12, 2, 1, 0]), (6, .iload_n 2, 1, []), (7, .ishr, 1, []), (8, .iconst 1, 1, []), (9, .iand, 1, []), (10, .ifCond .ne 7, 3, [17]), (13, .iconst 1, 1, []), (14, .goto 4, 3, [18]), (17, .iconst 0, 1, []), (18, .ireturn, 1, [])]
def xm_17 : xM := (yX12_isFree, cX12_isFree, 3, 1, 0, (Option.some Jvm.ClassFile.FieldType.boolean), xk_17, [])
def xk_18 : List xE := [(0, .iload_n 1, 1, []), (1, .iconst 3, 1, []), (2, .if_icmp .eq 9, 3, [11]), (5, .iload_n 1, 1, []), (6, .bipush 6, 2, []), (8, .if_icmp .ne 24, 3, [32]), (11, .iload 4, 2, []), (13, .iload_n 2, 1, []), (14, .aload_n 0, 1, []), (15, .getfield 9, 3, [12, 0]), (18, .iconst 0, 1, []), (19, .iaload, 1, []), (20, .irem, 1, []), (21, .ishr, 1, []), (22, .iconst 1, 1, []), (23, .iand, 1, []), (24, .iconst 1, 1, []), (25, .if_icmp .ne 7, 3, [32]), (28, .iconst 1, 1, []), (29, .goto 4, 3, [33]), (32, .iconst 0, 1, []), (33, .istore 5, 2, []), (35, .iload 5, 2, []), (37, .ifCond .eq 11, 3, [48]), (40, .iload_n 3, 1, []), (41, .iconst 1, 1, []), (42, .iadd, 1, []), (43, .iconst 4, 1, []), (44, .irem, 1, []), (45, .goto 4, 3, [49]), (48, .iload_n 3, 1, []), (49, .istore 6, 2, []), (51, .iconst 1, 1, []), (52, .iload 6, 2, []), (54, .ishl, 1, []), (55, .iload_n 1, 1, []), (56, .bipush 6, 2, []), (58, .if_icmp .ne 14, 3, [72]), (61, .iconst 1, 1, []), (62, .iload 6, 2, []), (64, .iconst 1, 1, []), (65, .iadd, 1, []), (66, .iconst 4, 1, []), (67, .irem, 1, []), (68, .ishl, 1, []), (69, .goto 4, 3, [73]), (72, .iconst 0, 1, []), (73, .ior, 1, []), (74, .ireturn, 1, [])]
def xm_18 : xM := (yX12_loads, cX12_loads, 7, 1, 0, (Option.some Jvm.ClassFile.FieldType.int), xk_18, [(11, [5, 6]), (49, [0, 2, 3, 4, 5, 6])])
def xk_19 : List xE := [(0, .iload_n 1, 1, []), (1, .tableswitch 98 1 7 #[43, 53, 98, 75, 98, 88, 43], 43, [99, 1, 44, 2, 54, 3, 99, 4, 76, 5, 99, 6, 89, 7, 44]), (44, .bipush 10, 2, []), (46, .aload_n 0, 1, []), (47, .iload_n 3, 1, []), (48, .iconst 2, 1, []), (49, .invokevirtual 81, 3, [1, 8, 12, 2, 1, 0]), (52, .imul, 1, []), (53, .ireturn, 1, []), (54, .bipush 10, 2, []), (56, .aload_n 0, 1, []), (57, .iload_n 3, 1, []), (58, .iconst 2, 1, []), (59, .invokevirtual 81, 3, [1, 8, 12, 2, 1, 0]), (62, .imul, 1, []), (63, .iconst 4, 1, []), (64, .iadd, 1, []), (65, .aload_n 0, 1, []), (66, .iload_n 3, 1, []), (67, .iconst 3, 1, []), (68, .invokevirtual 81, 3, [1, 8, 12, 2, 1, 0]), (71, .invokestatic 85, 3, [0, 15, 1, 1, 0]), (74, .isub, 1, []), (75, .ireturn, 1, []), (76, .iload_n 3, 1, []), (77, .iload_n 2, 1, []), (78, .if_icmp .ne 8, 3, [86]), (81, .bipush 100, 2, []), (83, .goto 5, 3, [88]), (86, .bipush 10, 2, []), (88, .ireturn, 1, []), (89, .bipush 10, 2, []), (91, .aload_n 0, 1, []), (92, .iload_n 3, 1, []), (93, .iconst 2, 1, []), (94, .invokevirtual 81, 3, [1, 8, 12, 2, 1, 0]), (97, .iadd, 1, []), (98, .ireturn, 1, []), (99, .bipush 10, 2, []), (101, .ireturn, 1, [])]
def xm_19 : xM := (yX12_weightOf, cX12_weightOf, 4, 1, 0, (Option.some Jvm.ClassFile.FieldType.int), xk_19, [])
def xk_20 : List xE := [(0, .iload_n 3, 1, []), (1, .iload 4, 2, []), (3, .if_icmp .ne 83, 3, [86]), (6, .aload_n 0, 1, []), (7, .getfield 89, 3, [12, 16]), (10, .ifCond .lt 13, 3, [23]), (13, .iload 7, 2, []), (15, .aload_n 0, 1, []), (16, .getfield 89, 3, [12, 16]), (19, .if_icmp .lt 4, 3, [23]), (22, .return_, 1, []), (23, .aload_n 0, 1, []), (24, .iload 7, 2, []), (26, .putfield 89, 3, [12, 16]), (29, .aload_n 0, 1, []), (30, .iload 6, 2, []), (32, .putfield 92, 3, [12, 17]), (35, .aload_n 0, 1, []), (36, .iload 8, 2, []), (38, .putfield 95, 3, [12, 18]), (41, .iconst 0, 1, []), (42, .istore 9, 2, []), (44, .iload 9, 2, []), (46, .iload 6, 2, []), (48, .if_icmp .ge 37, 3, [85]), (51, .aload_n 0, 1, []), (52, .getfield 43, 3, [12, 13]), (55, .iload 9, 2, []), (57, .aload_n 0, 1, []), (58, .getfield 40, 3, [12, 12]), (61, .iload 9, 2, []), (63, .iaload, 1, []), (64, .iastore, 1, []), (65, .aload_n 0, 1, []), (66, .getfield 46, 3, [12, 14]), (69, .iload 9, 2, []), (71, .aload_n 0, 1, []), (72, .getfield 49, 3, [12, 15]), (75, .iload 9, 2, []), (77, .iaload, 1, []), (78, .iastore, 1, []), (79, .iinc 9 1, 3, []), (82, .goto (-38), 3, [44]), (85, .return_, 1, []), (86, .aload_n 0, 1, []), (87, .iload_n 1, 1, []), (88, .invokevirtual 98, 3, [1, 10, 12, 1, 1, 0]), (91, .istore 9, 2, []), (93, .aload_n 0, 1, []), (94, .iload_n 1, 1, []), (95, .invokevirtual 101, 3, [1, 11, 12, 1, 1, 0]), (98, .istore 10, 2, []), (100, .iload 9, 2, []), (102, .bipush 7, 2, []), (104, .if_icmp .ne 11, 3, [115]), (107, .iload 6, 2, []), (109, .iload 10, 2, []), (111, .if_icmp .ne 4, 3, [115]), (114, .return_, 1, []), (115, .aload_n 0, 1, []), (116, .iload 9, 2, []), (118, .iload 10, 2, []), (120, .iload_n 2, 1, []), (121, .iload 5, 2, []), (123, .invokevirtual 104, 3, [1, 18, 12, 4, 1, 0]), (126, .istore 11, 2, []), (128, .iconst 0, 1, []), (129, .istore 12, 2, []), (131, .iload 12, 2, []), (133, .aload_n 0, 1, []), (134, .getfield 9, 3, [12, 0]), (137, .iconst 1, 1, []), (138, .iaload, 1, []), (139, .if_icmp .ge 146, 3, [285]), (142, .aload_n 0, 1, []), (143, .iload 12, 2, []), (145, .iload_n 3, 1, []), (146, .invokevirtual 108, 3, [1, 16, 12, 2, 1, 0]), (149, .istore 13, 2, []), (151, .iload 9, 2, []), (153, .iconst 5, 1, []), (154, .if_icmp .ne 14, 3, [168]), (157, .iload 12, 2, []), (159, .iload 10, 2, []), (161, .if_icmp .ne 7, 3, [168]), (164, .iconst 1, 1, []), (165, .goto 4, 3, [169]), (168, .iconst 0, 1, []), (169, .istore 14, 2, []), (171, .iload 13, 2, []), (173, .ifCond .lt 106, 3, [279]), (176, .iload 5, 2, []), (178, .iload 13, 2, []), (180, .ishr, 1, []), (181, .iconst 1, 1, []), (182, .iand, 1, []), (183, .iconst 1, 1, []), (184, .if_icmp .eq 95, 3, [279]), (187, .aload_n 0, 1, []), (188, .iload 12, 2, []), (190, .iconst 3, 1, []), (191, .invokevirtual 81, 3, [1, 8, 12, 2, 1, 0]), (194, .iload 11, 2, []), (196, .iand, 1, []), (197, .ifCond .eq 11, 3, [208]), (200, .iload 14, 2, []), (202, .ifCond .ne 6, 3, [208]), (205, .goto 74, 3, [279]), (208, .aload_n 0, 1, []), (209, .getfield 40, 3, [12, 12]), (212, .iload 6, 2, []), (214, .iload 12, 2, []), (216, .iastore, 1, []), (217, .aload_n 0, 1, []), (218, .getfield 49, 3, [12, 15]), (221, .iload 6, 2, []), (223, .iload 14, 2, []), (225, .ifCond .eq 7, 3, [232]), (228, .iconst 0, 1, []), (229, .goto 5, 3, [234]), (232, .iload 11, 2, []), (234, .iastore, 1, []), (235, .aload_n 0, 1, []), (236, .iload_n 1, 1, []), (237, .iload_n 2, 1, []), (238, .iload 13, 2, []), (240, .iload 4, 2, []), (242, .iload 5, 2, []), (244, .iconst 1, 1, []), (245, .iload 13, 2, []), (247, .ishl, 1, []), (248, .ior, 1, []), (249, .iload 6, 2, []), (251, .iconst 1, 1, []), (252, .iadd, 1, []), (253, .iload 7, 2, []), (255, .aload_n 0, 1, []), (256, .iload 9, 2, []), (258, .iload 10, 2, []), (260, .iload 12, 2, []), (262, .invokevirtual 111, 3, [1, 19, 12, 3, 1, 0]), (265, .iadd, 1, []), (266, .iload 8, 2, []), (268, .aload_n 0, 1, []), (269, .iload 12, 2, []), (271, .iconst 2, 1, []), (272, .invokevirtual 81, 3, [1, 8, 12, 2, 1, 0]), (275, .iadd, 1, []), (276, .invokevirtual 115, 3, [1, 20, 12, 8, 0, 0]), (279, .iinc 12 1, 3, []), (282, .goto (-151), 3, [131]), (285, .return_, 1, [])]
def xm_20 : xM := (yX12_tries, cX12_tries, 15, 0, 0, (Option.none : Option Jvm.ClassFile.FieldType), xk_20, [(44, [1, 2, 3, 4, 5, 7, 8, 10, 11, 12, 13, 14]), (131, [13, 14]), (169, [14]), (234, [14])])
def xk_21 : List xE := [(0, .aload_n 0, 1, []), (1, .bipush (-4), 2, []), (3, .putfield 89, 3, [12, 16]), (6, .aload_n 0, 1, []), (7, .bipush (-4), 2, []), (9, .putfield 92, 3, [12, 17]), (12, .aload_n 0, 1, []), (13, .bipush (-4), 2, []), (15, .putfield 95, 3, [12, 18]), (18, .aload_n 0, 1, []), (19, .iload_n 1, 1, []), (20, .iload_n 2, 1, []), (21, .iload_n 3, 1, []), (22, .iload 4, 2, []), (24, .iconst 1, 1, []), (25, .iload_n 3, 1, []), (26, .ishl, 1, []), (27, .iconst 0, 1, []), (28, .iconst 0, 1, []), (29, .iconst 0, 1, []), (30, .invokevirtual 115, 3, [1, 20, 12, 8, 0, 0]), (33, .aload_n 0, 1, []), (34, .getfield 89, 3, [12, 16]), (37, .ifCond .lt 7, 3, [44]), (40, .iconst 1, 1, []), (41, .goto 4, 3, [45]), (44, .iconst 0, 1, []), (45, .ireturn, 1, [])]
def xm_21 : xM := (yX12_findsWay, cX12_findsWay, 5, 1, 0, (Option.some Jvm.ClassFile.FieldType.boolean), xk_21, [])
def xk_22 : List xE := [(0, .aload_n 0, 1, []), (1, .iload_n 1, 1, []), (2, .iload_n 2, 1, []), (3, .iload_n 3, 1, []), (4, .iload 4, 2, []), (6, .invokevirtual 119, 3, [1, 21, 12, 4, 1, 0]), (9, .ifCond .ne 5, 3, [14]), (12, .iconst 0, 1, []), (13, .ireturn, 1, []), (14, .iconst 0, 1, []), (15, .istore 5, 2, []), (17, .iload 5, 2, []), (19, .aload_n 0, 1, []), (20, .getfield 92, 3, [12, 17]), (23, .if_icmp .ge 41, 3, [64]), (26, .aload_n 0, 1, []), (27, .aload_n 0, 1, []), (28, .getfield 43, 3, [12, 13]), (31, .iload 5, 2, []), (33, .iaload, 1, []), (34, .iconst 3, 1, []), (35, .aload_n 0, 1, []), (36, .aload_n 0, 1, []), (37, .getfield 43, 3, [12, 13]), (40, .iload 5, 2, []), (42, .iaload, 1, []), (43, .iconst 3, 1, []), (44, .invokevirtual 81, 3, [1, 8, 12, 2, 1, 0]), (47, .aload_n 0, 1, []), (48, .getfield 46, 3, [12, 14]), (51, .iload 5, 2, []), (53, .iaload, 1, []), (54, .ior, 1, []), (55, .invokevirtual 123, 3, [1, 9, 12, 3, 0, 0]), (58, .iinc 5 1, 3, []), (61, .goto (-44), 3, [17]), (64, .iconst 1, 1, []), (65, .ireturn, 1, [])]
def xm_22 : xM := (yX12_goes, cX12_goes, 6, 1, 0, (Option.some Jvm.ClassFile.FieldType.boolean), xk_22, [(17, [1, 2, 3, 4])])
def xk_23 : List xE := [(0, .aload_n 0, 1, []), (1, .getfield 127, 3, [12, 19]), (4, .aload_n 0, 1, []), (5, .getfield 130, 3, [12, 21]), (8, .if_icmp .ge 20, 3, [28]), (11, .aload_n 0, 1, []), (12, .getfield 31, 3, [12, 7]), (15, .aload_n 0, 1, []), (16, .getfield 133, 3, [12, 20]), (19, .aload_n 0, 1, []), (20, .getfield 127, 3, [12, 19]), (23, .iadd, 1, []), (24, .iaload, 1, []), (25, .goto 6, 3, [31]), (28, .sipush (-1000), 3, []), (31, .ireturn, 1, [])]
def xm_23 : xM := (yX12_here, cX12_here, 1, 1, 0, (Option.some Jvm.ClassFile.FieldType.int), xk_23, [])
def xk_24 : List xE := [(0, .iconst 0, 1, []), (1, .istore_n 2, 1, []), (2, .iload_n 2, 1, []), (3, .iload_n 1, 1, []), (4, .if_icmp .ge 51, 3, [55]), (7, .aload_n 0, 1, []), (8, .invokevirtual 136, 3, [1, 23, 12, 0, 1, 0]), (11, .i2l, 1, []), (12, .ldc2_w 140, 3, [48]), (15, .ldc2_w 142, 3, [57]), (18, .invokestatic 67, 3, [0, 1, 3, 1, 0]), (21, .ifCond .ne 5, 3, [26]), (24, .iconst 0, 1, []), (25, .ireturn, 1, []), (26, .aload_n 0, 1, []), (27, .getfield 52, 3, [12, 22]), (30, .iload_n 2, 1, []), (31, .aload_n 0, 1, []), (32, .invokevirtual 136, 3, [1, 23, 12, 0, 1, 0]), (35, .bipush 48, 2, []), (37, .isub, 1, []), (38, .iastore, 1, []), (39, .aload_n 0, 1, []), (40, .dup, 1, []), (41, .getfield 127, 3, [12, 19]), (44, .iconst 1, 1, []), (45, .iadd, 1, []), (46, .putfield 127, 3, [12, 19]), (49, .iinc 2 1, 3, []), (52, .goto (-50), 3, [2]), (55, .iconst 1, 1, []), (56, .ireturn, 1, [])]
def xm_24 : xM := (yX12_readsDigits, cX12_readsDigits, 3, 1, 0, (Option.some Jvm.ClassFile.FieldType.boolean), xk_24, [(2, [])])
def xk_25 : List xE := [(0, .aload_n 0, 1, []), (1, .invokevirtual 136, 3, [1, 23, 12, 0, 1, 0]), (4, .istore_n 1, 1, []), (5, .iload_n 1, 1, []), (6, .bipush 112, 2, []), (8, .if_icmp .ne 7, 3, [15]), (11, .iconst 1, 1, []), (12, .goto 40, 3, [52]), (15, .iload_n 1, 1, []), (16, .bipush 117, 2, []), (18, .if_icmp .eq 9, 3, [27]), (21, .iload_n 1, 1, []), (22, .bipush 99, 2, []), (24, .if_icmp .ne 7, 3, [31]), (27, .iconst 2, 1, []), (28, .goto 24, 3, [52]), (31, .iload_n 1, 1, []), (32, .bipush 114, 2, []), (34, .if_icmp .ne 7, 3, [41]), (37, .iconst 3, 1, []), (38, .goto 14, 3, [52]), (41, .iload_n 1, 1, []), (42, .bipush 103, 2, []), (44, .if_icmp .ne 7, 3, [51]), (47, .iconst 4, 1, []), (48, .goto 4, 3, [52]), (51, .iconst 0, 1, []), (52, .istore_n 2, 1, []), (53, .iload_n 2, 1, []), (54, .ifCond .ne 5, 3, [59]), (57, .iconst 0, 1, []), (58, .ireturn, 1, []), (59, .aload_n 0, 1, []), (60, .dup, 1, []), (61, .getfield 127, 3, [12, 19]), (64, .iconst 1, 1, []), (65, .iadd, 1, []), (66, .putfield 127, 3, [12, 19]), (69, .aload_n 0, 1, []), (70, .iload_n 2, 1, []), (71, .invokevirtual 144, 3, [1, 24, 12, 1, 1, 0]), (74, .ifCond .eq 12, 3, [86]), (77, .aload_n 0, 1, []), (78, .invokevirtual 136, 3, [1, 23, 12, 0, 1, 0]), (81, .bipush 59, 2, []), (83, .if_icmp .eq 5, 3, [88]), (86, .iconst 0, 1, []), (87, .ireturn, 1, []), (88, .aload_n 0, 1, []), (89, .dup, 1, []), (90, .getfield 127, 3, [12, 19]), (93, .iconst 1, 1, []), (94, .iadd, 1, []), (95, .putfield 127, 3, [12, 19]), (98, .iconst 1, 1, []), (99, .ireturn, 1, [])]
def xm_25 : xM := (yX12_readsStatement, cX12_readsStatement, 3, 1, 0, (Option.some Jvm.ClassFile.FieldType.boolean), xk_25, [(52, [1, 2])])
def xk_26 : List xE := [(0, .aload_n 0, 1, []), (1, .getfield 9, 3, [12, 0]), (4, .iconst 2, 1, []), (5, .iaload, 1, []), (6, .bipush 6, 2, []), (8, .if_icmp .ne 5, 3, [13]), (11, .iconst 0, 1, []), (12, .ireturn, 1, []), (13, .aload_n 0, 1, []), (14, .getfield 9, 3, [12, 0]), (17, .bipush 43, 2, []), (19, .iconst 2, 1, []), (20, .aload_n 0, 1, []), (21, .getfield 9, 3, [12, 0]), (24, .iconst 2, 1, []), (25, .iaload, 1, []), (26, .imul, 1, []), (27, .iadd, 1, []), (28, .iload_n 1, 1, []), (29, .iastore, 1, []), (30, .aload_n 0, 1, []), (31, .getfield 9, 3, [12, 0]), (34, .bipush 43, 2, []), (36, .iconst 2, 1, []), (37, .aload_n 0, 1, []), (38, .getfield 9, 3, [12, 0]), (41, .iconst 2, 1, []), (42, .iaload, 1, []), (43, .imul, 1, []), (44, .iadd, 1, []), (45, .iconst 1, 1, []), (46, .iadd, 1, []), (47, .iload_n 2, 1, []), (48, .iastore, 1, []), (49, .aload_n 0, 1, []), (50, .getfield 9, 3, [12, 0]), (53, .iconst 2, 1, []), (54, .dup2, 1, []), (55, .iaload, 1, []), (56, .iconst 1, 1, []), (57, .iadd, 1, []), (58, .iastore, 1, []), (59, .iconst 1, 1, []), (60, .ireturn, 1, [])]
def xm_26 : xM := (yX12_adds, cX12_adds, 3, 1, 0, (Option.some Jvm.ClassFile.FieldType.boolean), xk_26, [])
def xk_27 : List xE := [(0, .aload_n 0, 1, []), (1, .aload_n 0, 1, []), (2, .getfield 9, 3, [12, 0]), (5, .iconst 1, 1, []), (6, .iaload, 1, []), (7, .iconst 0, 1, []), (8, .iload_n 1, 1, []), (9, .invokevirtual 123, 3, [1, 9, 12, 3, 0, 0]), (12, .aload_n 0, 1, []), (13, .aload_n 0, 1, []), (14, .getfield 9, 3, [12, 0]), (17, .iconst 1, 1, []), (18, .iaload, 1, []), (19, .iconst 1, 1, []), (20, .iload_n 2, 1, []), (21, .invokevirtual 123, 3, [1, 9, 12, 3, 0, 0]), (24, .aload_n 0, 1, []), (25, .aload_n 0, 1, []), (26, .getfield 9, 3, [12, 0]), (29, .iconst 1, 1, []), (30, .iaload, 1, []), (31, .iconst 2, 1, []), (32, .iload_n 3, 1, []), (33, .invokevirtual 123, 3, [1, 9, 12, 3, 0, 0]), (36, .aload_n 0, 1, []), (37, .aload_n 0, 1, []), (38, .getfield 9, 3, [12, 0]), (41, .iconst 1, 1, []), (42, .iaload, 1, []), (43, .iconst 3, 1, []), (44, .iconst 0, 1, []), (45, .invokevirtual 123, 3, [1, 9, 12, 3, 0, 0]), (48, .return_, 1, [])]
def xm_27 : xM := (yX12_layRoad, cX12_layRoad, 4, 0, 0, (Option.none : Option Jvm.ClassFile.FieldType), xk_27, [])
def xk_28 : List xE := [(0, .aload_n 0, 1, []), (1, .getfield 52, 3, [12, 22]), (4, .iconst 0, 1, []), (5, .iaload, 1, []), (6, .istore_n 2, 1, []), (7, .aload_n 0, 1, []), (8, .getfield 52, 3, [12, 22]), (11, .iconst 1, 1, []), (12, .iaload, 1, []), (13, .istore_n 3, 1, []), (14, .iload_n 1, 1, []), (15, .lookupswitch 189 #[(99, 168), (112, 41), (114, 68), (117, 124)], 41, [204, 99, 183, 112, 56, 114, 83, 117, 139]), (56, .iload_n 2, 1, []), (57, .aload_n 0, 1, []), (58, .getfield 9, 3, [12, 0]), (61, .iconst 0, 1, []), (62, .iaload, 1, []), (63, .if_icmp .lt 9, 3, [72]), (66, .iload_n 2, 1, []), (67, .bipush 6, 2, []), (69, .if_icmp .le 5, 3, [74]), (72, .iconst 0, 1, []), (73, .ireturn, 1, []), (74, .aload_n 0, 1, []), (75, .getfield 9, 3, [12, 0]), (78, .iconst 0, 1, []), (79, .iload_n 2, 1, []), (80, .iastore, 1, []), (81, .iconst 1, 1, []), (82, .ireturn, 1, []), (83, .aload_n 0, 1, []), (84, .iload_n 2, 1, []), (85, .iload_n 3, 1, []), (86, .invokevirtual 147, 3, [1, 7, 12, 2, 1, 0]), (89, .ifCond .eq 24, 3, [113]), (92, .aload_n 0, 1, []), (93, .getfield 52, 3, [12, 22]), (96, .iconst 2, 1, []), (97, .iaload, 1, []), (98, .iconst 1, 1, []), (99, .if_icmp .lt 14, 3, [113]), (102, .aload_n 0, 1, []), (103, .getfield 9, 3, [12, 0]), (106, .iconst 1, 1, []), (107, .iaload, 1, []), (108, .bipush 9, 2, []), (110, .if_icmp .ne 5, 3, [115]), (113, .iconst 0, 1, []), (114, .ireturn, 1, []), (115, .aload_n 0, 1, []), (116, .iload_n 2, 1, []), (117, .iload_n 3, 1, []), (118, .aload_n 0, 1, []), (119, .getfield 52, 3, [12, 22]), (122, .iconst 2, 1, []), (123, .iaload, 1, []), (124, .invokevirtual 151, 3, [1, 27, 12, 3, 0, 0]), (127, .aload_n 0, 1, []), (128, .getfield 9, 3, [12, 0]), (131, .iconst 1, 1, []), (132, .dup2, 1, []), (133, .iaload, 1, []), (134, .iconst 1, 1, []), (135, .iadd, 1, []), (136, .iastore, 1, []), (137, .iconst 1, 1, []), (138, .ireturn, 1, []), (139, .aload_n 0, 1, []), (140, .iload_n 2, 1, []), (141, .invokevirtual 154, 3, [1, 4, 12, 1, 1, 0]), (144, .ifCond .eq 19, 3, [163]), (147, .iload_n 3, 1, []), (148, .invokestatic 157, 3, [0, 6, 1, 1, 0]), (151, .ifCond .eq 12, 3, [163]), (154, .aload_n 0, 1, []), (155, .iload_n 2, 1, []), (156, .iload_n 3, 1, []), (157, .invokevirtual 160, 3, [1, 17, 12, 2, 1, 0]), (160, .ifCond .ne 5, 3, [165]), (163, .iconst 0, 1, []), (164, .ireturn, 1, []), (165, .aload_n 0, 1, []), (166, .iload_n 2, 1, []), (167, .iconst 3, 1, []), (168, .aload_n 0, 1, []), (169, .iload_n 2, 1, []), (170, .iconst 3, 1, []), (171, .invokevirtual 81, 3, [1, 8, 12, 2, 1, 0]), (174, .iconst 1, 1, []), (175, .iload_n 3, 1, []), (176, .ishl, 1, []), (177, .ior, 1, []), (178, .invokevirtual 123, 3, [1, 9, 12, 3, 0, 0]), (181, .iconst 1, 1, []), (182, .ireturn, 1, []), (183, .iload_n 2, 1, []), (184, .bipush 8, 2, []), (186, .if_icmp .ge 16, 3, [202]), (189, .aload_n 0, 1, []), (190, .iload_n 2, 1, []), (191, .iload_n 3, 1, []), (192, .invokevirtual 163, 3, [1, 26, 12, 2, 1, 0]), (195, .ifCond .eq 7, 3, [202]), (198, .iconst 1, 1, []), (199, .goto 4, 3, [203]), (202, .iconst 0, 1, []), (203, .ireturn, 1, []), (204, .aload_n 0, 1, []), (205, .iload_n 2, 1, []), (206, .invokevirtual 166, 3, [1, 5, 12, 1, 1, 0]), (209, .ifCond .eq 54, 3, [263]), (212, .iload_n 3, 1, []), (213, .invokestatic 157, 3, [0, 6, 1, 1, 0]), (216, .ifCond .eq 47, 3, [263]), (219, .aload_n 0, 1, []), (220, .aload_n 0, 1, []), (221, .getfield 52, 3, [12, 22]), (224, .iconst 2, 1, []), (225, .iaload, 1, []), (226, .aload_n 0, 1, []), (227, .getfield 52, 3, [12, 22]), (230, .iconst 3, 1, []), (231, .iaload, 1, []), (232, .invokevirtual 147, 3, [1, 7, 12, 2, 1, 0]), (235, .ifCond .eq 28, 3, [263]), (238, .aload_n 0, 1, []), (239, .iload_n 2, 1, []), (240, .iload_n 3, 1, []), (241, .aload_n 0, 1, []), (242, .getfield 52, 3, [12, 22]), (245, .iconst 2, 1, []), (246, .iaload, 1, []), (247, .aload_n 0, 1, []), (248, .getfield 52, 3, [12, 22]), (251, .iconst 3, 1, []), (252, .iaload, 1, []), (253, .invokevirtual 169, 3, [1, 22, 12, 4, 1, 0]), (256, .ifCond .eq 7, 3, [263]), (259, .iconst 1, 1, []), (260, .goto 4, 3, [264]), (263, .iconst 0, 1, []), (264, .ireturn, 1, [])]
def xm_28 : xM := (yX12_comesTold, cX12_comesTold, 4, 1, 0, (Option.some Jvm.ClassFile.FieldType.boolean), xk_28, [])
def xk_29 : List xE := [(0, .iload_n 1, 1, []), (1, .invokestatic 172, 3, [0, 2, 1, 1, 0]), (4, .ifCond .ne 7, 3, [11]), (7, .iconst (-1), 1, []), (8, .goto 47, 3, [55]), (11, .aload_n 0, 1, []), (12, .getfield 22, 3, [12, 4]), (15, .iload_n 1, 1, []), (16, .iaload, 1, []), (17, .ifCond .ne 8, 3, [25]), (20, .bipush (-11), 2, []), (22, .goto 33, 3, [55]), (25, .aload_n 0, 1, []), (26, .getfield 22, 3, [12, 4]), (29, .iload_n 1, 1, []), (30, .iaload, 1, []), (31, .iconst 2, 1, []), (32, .if_icmp .ne 17, 3, [49]), (35, .iload_n 2, 1, []), (36, .ifCond .lt 18, 3, [54]), (39, .aload_n 0, 1, []), (40, .getfield 25, 3, [12, 5]), (43, .iload_n 1, 1, []), (44, .iaload, 1, []), (45, .iload_n 2, 1, []), (46, .if_icmp .eq 8, 3, [54]), (49, .bipush (-12), 2, []), (51, .goto 4, 3, [55]), (54, .iconst 0, 1, []), (55, .ireturn, 1, [])]
def xm_29 : xM := (yX12_wrongRow, cX12_wrongRow, 3, 1, 0, (Option.some Jvm.ClassFile.FieldType.int), xk_29, [])
def xk_30 : List xE := [(0, .aload_n 0, 1, []), (1, .iload_n 1, 1, []), (2, .iconst 0, 1, []), (3, .invokevirtual 175, 3, [1, 29, 12, 2, 1, 0]), (6, .istore_n 2, 1, []), (7, .iload_n 2, 1, []), (8, .ifCond .eq 5, 3, [13]), (11, .iload_n 2, 1, []), (12, .ireturn, 1, []), (13, .aload_n 0, 1, []), (14, .bipush 100, 2, []), (16, .iload_n 1, 1, []), (17, .imul, 1, []), (18, .putfield 133, 3, [12, 20]), (21, .aload_n 0, 1, []), (22, .aload_n 0, 1, []), (23, .getfield 28, 3, [12, 6]), (26, .iload_n 1, 1, []), (27, .iaload, 1, []), (28, .putfield 130, 3, [12, 21]), (31, .aload_n 0, 1, []), (32, .iconst 0, 1, []), (33, .putfield 127, 3, [12, 19]), (36, .iconst 0, 1, []), (37, .istore_n 3, 1, []), (38, .aload_n 0, 1, []), (39, .invokevirtual 178, 3, [1, 25, 12, 0, 1, 0]), (42, .ifCond .ne 12, 3, [54]), (45, .sipush (-1000), 3, []), (48, .aload_n 0, 1, []), (49, .getfield 127, 3, [12, 19]), (52, .isub, 1, []), (53, .ireturn, 1, []), (54, .iinc 3 1, 3, []), (57, .aload_n 0, 1, []), (58, .getfield 127, 3, [12, 19]), (61, .aload_n 0, 1, []), (62, .getfield 130, 3, [12, 21]), (65, .if_icmp .lt (-27), 3, [38]), (68, .aload_n 0, 1, []), (69, .getfield 9, 3, [12, 0]), (72, .aload_n 0, 1, []), (73, .getfield 16, 3, [12, 2]), (76, .invokestatic 77, 3, [0, 12, 2, 0, 0]), (79, .aload_n 0, 1, []), (80, .iconst 0, 1, []), (81, .putfield 127, 3, [12, 19]), (84, .aload_n 0, 1, []), (85, .getfield 127, 3, [12, 19]), (88, .aload_n 0, 1, []), (89, .getfield 130, 3, [12, 21]), (92, .if_icmp .ge 51, 3, [143]), (95, .aload_n 0, 1, []), (96, .getfield 127, 3, [12, 19]), (99, .istore 4, 2, []), (101, .aload_n 0, 1, []), (102, .invokevirtual 136, 3, [1, 23, 12, 0, 1, 0]), (105, .istore 5, 2, []), (107, .aload_n 0, 1, []), (108, .invokevirtual 178, 3, [1, 25, 12, 0, 1, 0]), (111, .istore 6, 2, []), (113, .aload_n 0, 1, []), (114, .iload 5, 2, []), (116, .invokevirtual 182, 3, [1, 28, 12, 1, 1, 0]), (119, .ifCond .ne 21, 3, [140]), (122, .aload_n 0, 1, []), (123, .getfield 16, 3, [12, 2]), (126, .aload_n 0, 1, []), (127, .getfield 9, 3, [12, 0]), (130, .invokestatic 77, 3, [0, 12, 2, 0, 0]), (133, .sipush (-2000), 3, []), (136, .iload 4, 2, []), (138, .isub, 1, []), (139, .ireturn, 1, []), (140, .goto (-56), 3, [84]), (143, .iload_n 3, 1, []), (144, .ireturn, 1, [])]
def xm_30 : xM := (yX12_land, cX12_land, 7, 1, 0, (Option.some Jvm.ClassFile.FieldType.int), xk_30, [(38, [1, 2, 4, 5, 6]), (84, [1, 2, 4, 5, 6])])
def xk_31 : List xE := [(0, .aload_n 0, 1, []), (1, .iload_n 1, 1, []), (2, .invokevirtual 154, 3, [1, 4, 12, 1, 1, 0]), (5, .ifCond .eq 24, 3, [29]), (8, .iload_n 2, 1, []), (9, .i2l, 1, []), (10, .lconst 0, 1, []), (11, .ldc2_w 71, 3, [3]), (14, .invokestatic 67, 3, [0, 1, 3, 1, 0]), (17, .ifCond .eq 12, 3, [29]), (20, .aload_n 0, 1, []), (21, .iload_n 1, 1, []), (22, .iload_n 2, 1, []), (23, .invokevirtual 81, 3, [1, 8, 12, 2, 1, 0]), (26, .goto 4, 3, [30]), (29, .iconst (-1), 1, []), (30, .ireturn, 1, [])]
def xm_31 : xM := (yX12_road, cX12_road, 3, 1, 0, (Option.some Jvm.ClassFile.FieldType.int), xk_31, [])
def xk_32 : List xE := [(0, .aload_n 0, 1, []), (1, .iload_n 1, 1, []), (2, .invokevirtual 166, 3, [1, 5, 12, 1, 1, 0]), (5, .ifCond .eq 13, 3, [18]), (8, .iload_n 2, 1, []), (9, .i2l, 1, []), (10, .lconst 0, 1, []), (11, .lconst 1, 1, []), (12, .invokestatic 67, 3, [0, 1, 3, 1, 0]), (15, .ifCond .ne 7, 3, [22]), (18, .iconst (-1), 1, []), (19, .goto 20, 3, [39]), (22, .iload_n 2, 1, []), (23, .ifCond .ne 11, 3, [34]), (26, .aload_n 0, 1, []), (27, .iload_n 1, 1, []), (28, .invokevirtual 98, 3, [1, 10, 12, 1, 1, 0]), (31, .goto 8, 3, [39]), (34, .aload_n 0, 1, []), (35, .iload_n 1, 1, []), (36, .invokevirtual 101, 3, [1, 11, 12, 1, 1, 0]), (39, .ireturn, 1, [])]
def xm_32 : xM := (yX12_carrier, cX12_carrier, 3, 1, 0, (Option.some Jvm.ClassFile.FieldType.int), xk_32, [])
def xk_33 : List xE := [(0, .iload_n 1, 1, []), (1, .invokestatic 172, 3, [0, 2, 1, 1, 0]), (4, .ifCond .ne 7, 3, [11]), (7, .iconst (-1), 1, []), (8, .goto 33, 3, [41]), (11, .aload_n 0, 1, []), (12, .getfield 22, 3, [12, 4]), (15, .iload_n 1, 1, []), (16, .iaload, 1, []), (17, .ifCond .ne 8, 3, [25]), (20, .bipush (-11), 2, []), (22, .goto 19, 3, [41]), (25, .aload_n 0, 1, []), (26, .getfield 22, 3, [12, 4]), (29, .iload_n 1, 1, []), (30, .iaload, 1, []), (31, .iconst 1, 1, []), (32, .if_icmp .ne 7, 3, [39]), (35, .iconst 0, 1, []), (36, .goto 5, 3, [41]), (39, .bipush (-12), 2, []), (41, .ireturn, 1, [])]
def xm_33 : xM := (yX12_wrongKept, cX12_wrongKept, 2, 1, 0, (Option.some Jvm.ClassFile.FieldType.int), xk_33, [])
def xk_34 : List xE := [(0, .aload_n 0, 1, []), (1, .iload_n 1, 1, []), (2, .invokevirtual 185, 3, [1, 33, 12, 1, 1, 0]), (5, .istore_n 2, 1, []), (6, .iload_n 2, 1, []), (7, .ifCond .eq 5, 3, [12]), (10, .iload_n 2, 1, []), (11, .ireturn, 1, []), (12, .aload_n 0, 1, []), (13, .aload_n 0, 1, []), (14, .getfield 34, 3, [12, 8]), (17, .iload_n 1, 1, []), (18, .iaload, 1, []), (19, .aload_n 0, 1, []), (20, .getfield 37, 3, [12, 9]), (23, .iload_n 1, 1, []), (24, .iaload, 1, []), (25, .invokevirtual 163, 3, [1, 26, 12, 2, 1, 0]), (28, .ifCond .eq 14, 3, [42]), (31, .aload_n 0, 1, []), (32, .getfield 9, 3, [12, 0]), (35, .iconst 2, 1, []), (36, .iaload, 1, []), (37, .iconst 1, 1, []), (38, .isub, 1, []), (39, .goto 5, 3, [44]), (42, .bipush (-2), 2, []), (44, .ireturn, 1, [])]
def xm_34 : xM := (yX12_hires, cX12_hires, 3, 1, 0, (Option.some Jvm.ClassFile.FieldType.int), xk_34, [])
def xk_35 : List xE := [(0, .aload_n 0, 1, []), (1, .iload_n 1, 1, []), (2, .invokevirtual 154, 3, [1, 4, 12, 1, 1, 0]), (5, .ifCond .eq 20, 3, [25]), (8, .iload_n 2, 1, []), (9, .invokestatic 157, 3, [0, 6, 1, 1, 0]), (12, .ifCond .eq 13, 3, [25]), (15, .iload_n 3, 1, []), (16, .i2l, 1, []), (17, .lconst 0, 1, []), (18, .lconst 1, 1, []), (19, .invokestatic 67, 3, [0, 1, 3, 1, 0]), (22, .ifCond .ne 5, 3, [27]), (25, .iconst (-1), 1, []), (26, .ireturn, 1, []), (27, .aload_n 0, 1, []), (28, .iload_n 1, 1, []), (29, .iconst 3, 1, []), (30, .invokevirtual 81, 3, [1, 8, 12, 2, 1, 0]), (33, .istore 4, 2, []), (35, .iload_n 3, 1, []), (36, .iconst 1, 1, []), (37, .if_icmp .ne 12, 3, [49]), (40, .iload 4, 2, []), (42, .iconst 1, 1, []), (43, .iload_n 2, 1, []), (44, .ishl, 1, []), (45, .ior, 1, []), (46, .goto 11, 3, [57]), (49, .iload 4, 2, []), (51, .iconst 1, 1, []), (52, .iload_n 2, 1, []), (53, .ishl, 1, []), (54, .iconst (-1), 1, []), (55, .ixor, 1, []), (56, .iand, 1, []), (57, .istore 5, 2, []), (59, .aload_n 0, 1, []), (60, .iload_n 1, 1, []), (61, .iconst 3, 1, []), (62, .iload 5, 2, []), (64, .invokevirtual 123, 3, [1, 9, 12, 3, 0, 0]), (67, .iload 5, 2, []), (69, .iload 4, 2, []), (71, .if_icmp .ne 7, 3, [78]), (74, .iconst 0, 1, []), (75, .goto 4, 3, [79]), (78, .iconst 1, 1, []), (79, .ireturn, 1, [])]
def xm_35 : xM := (yX12_nick, cX12_nick, 6, 1, 0, (Option.some Jvm.ClassFile.FieldType.int), xk_35, [])
def xk_36 : List xE := [(0, .aload_n 0, 1, []), (1, .iload_n 1, 1, []), (2, .invokevirtual 166, 3, [1, 5, 12, 1, 1, 0]), (5, .ifCond .eq 24, 3, [29]), (8, .iload_n 2, 1, []), (9, .invokestatic 157, 3, [0, 6, 1, 1, 0]), (12, .ifCond .eq 17, 3, [29]), (15, .aload_n 0, 1, []), (16, .iload_n 3, 1, []), (17, .iload 4, 2, []), (19, .invokevirtual 147, 3, [1, 7, 12, 2, 1, 0]), (22, .ifCond .eq 7, 3, [29]), (25, .iconst 1, 1, []), (26, .goto 4, 3, [30]), (29, .iconst 0, 1, []), (30, .ireturn, 1, [])]
def xm_36 : xM := (yX12_isAsked, cX12_isAsked, 5, 1, 0, (Option.some Jvm.ClassFile.FieldType.boolean), xk_36, [])
def xk_37 : List xE := [(0, .aload_n 0, 1, []), (1, .iload_n 1, 1, []), (2, .iload_n 2, 1, []), (3, .iload_n 3, 1, []), (4, .iload 4, 2, []), (6, .invokevirtual 188, 3, [1, 36, 12, 4, 1, 0]), (9, .ifCond .eq 16, 3, [25]), (12, .iload 5, 2, []), (14, .i2l, 1, []), (15, .lconst 0, 1, []), (16, .ldc2_w 191, 3, [2]), (19, .invokestatic 67, 3, [0, 1, 3, 1, 0]), (22, .ifCond .ne 5, 3, [27]), (25, .iconst (-1), 1, []), (26, .ireturn, 1, []), (27, .aload_n 0, 1, []), (28, .iload_n 1, 1, []), (29, .iload_n 2, 1, []), (30, .iload_n 3, 1, []), (31, .iload 4, 2, []), (33, .invokevirtual 119, 3, [1, 21, 12, 4, 1, 0]), (36, .istore 6, 2, []), (38, .iload 5, 2, []), (40, .ifCond .ne 10, 3, [50]), (43, .aload_n 0, 1, []), (44, .getfield 89, 3, [12, 16]), (47, .goto 20, 3, [67]), (50, .iload 5, 2, []), (52, .iconst 1, 1, []), (53, .if_icmp .ne 10, 3, [63]), (56, .aload_n 0, 1, []), (57, .getfield 92, 3, [12, 17]), (60, .goto 7, 3, [67]), (63, .aload_n 0, 1, []), (64, .getfield 95, 3, [12, 18]), (67, .ireturn, 1, [])]
def xm_37 : xM := (yX12_way, cX12_way, 7, 1, 0, (Option.some Jvm.ClassFile.FieldType.int), xk_37, [])
def xk_38 : List xE := [(0, .aload_n 0, 1, []), (1, .iload_n 1, 1, []), (2, .iload_n 2, 1, []), (3, .iload_n 3, 1, []), (4, .iload 4, 2, []), (6, .invokevirtual 188, 3, [1, 36, 12, 4, 1, 0]), (9, .ifCond .eq 8, 3, [17]), (12, .iload 5, 2, []), (14, .ifCond .ge 5, 3, [19]), (17, .iconst (-1), 1, []), (18, .ireturn, 1, []), (19, .aload_n 0, 1, []), (20, .iload_n 1, 1, []), (21, .iload_n 2, 1, []), (22, .iload_n 3, 1, []), (23, .iload 4, 2, []), (25, .invokevirtual 119, 3, [1, 21, 12, 4, 1, 0]), (28, .ifCond .eq 22, 3, [50]), (31, .iload 5, 2, []), (33, .aload_n 0, 1, []), (34, .getfield 92, 3, [12, 17]), (37, .if_icmp .ge 13, 3, [50]), (40, .aload_n 0, 1, []), (41, .getfield 43, 3, [12, 13]), (44, .iload 5, 2, []), (46, .iaload, 1, []), (47, .goto 5, 3, [52]), (50, .bipush (-4), 2, []), (52, .ireturn, 1, [])]
def xm_38 : xM := (yX12_step, cX12_step, 6, 1, 0, (Option.some Jvm.ClassFile.FieldType.int), xk_38, [])
def xk_39 : List xE := [(0, .aload_n 0, 1, []), (1, .iload_n 1, 1, []), (2, .iload_n 2, 1, []), (3, .iload_n 3, 1, []), (4, .iload 4, 2, []), (6, .invokevirtual 188, 3, [1, 36, 12, 4, 1, 0]), (9, .ifCond .ne 5, 3, [14]), (12, .iconst (-1), 1, []), (13, .ireturn, 1, []), (14, .aload_n 0, 1, []), (15, .iload_n 1, 1, []), (16, .iload_n 2, 1, []), (17, .iload_n 3, 1, []), (18, .iload 4, 2, []), (20, .invokevirtual 169, 3, [1, 22, 12, 4, 1, 0]), (23, .ifCond .eq 10, 3, [33]), (26, .aload_n 0, 1, []), (27, .getfield 95, 3, [12, 18]), (30, .goto 5, 3, [35]), (33, .bipush (-3), 2, []), (35, .ireturn, 1, [])]
def xm_39 : xM := (yX12_go, cX12_go, 5, 1, 0, (Option.some Jvm.ClassFile.FieldType.int), xk_39, [])
def xk_40 : List xE := [(0, .iconst 0, 1, []), (1, .istore 4, 2, []), (3, .iload 4, 2, []), (5, .bipush 6, 2, []), (7, .if_icmp .ge 29, 3, [36]), (10, .aload_n 0, 1, []), (11, .getfield 55, 3, [12, 23]), (14, .iload 4, 2, []), (16, .iload 4, 2, []), (18, .iload_n 2, 1, []), (19, .if_icmp .ne 7, 3, [26]), (22, .iconst 0, 1, []), (23, .goto 6, 3, [29]), (26, .sipush 1000, 3, []), (29, .iastore, 1, []), (30, .iinc 4 1, 3, []), (33, .goto (-30), 3, [3]), (36, .iconst 0, 1, []), (37, .istore 4, 2, []), (39, .iload 4, 2, []), (41, .bipush 6, 2, []), (43, .if_icmp .ge 143, 3, [186]), (46, .iconst 0, 1, []), (47, .istore 5, 2, []), (49, .iload 5, 2, []), (51, .aload_n 0, 1, []), (52, .getfield 9, 3, [12, 0]), (55, .iconst 1, 1, []), (56, .iaload, 1, []), (57, .if_icmp .ge 123, 3, [180]), (60, .aload_n 0, 1, []), (61, .iload 5, 2, []), (63, .iload_n 1, 1, []), (64, .invokevirtual 160, 3, [1, 17, 12, 2, 1, 0]), (67, .ifCond .ne 6, 3, [73]), (70, .goto 104, 3, [174]), (73, .aload_n 0, 1, []), (74, .iload 5, 2, []), (76, .iconst 0, 1, []), (77, .invokevirtual 81, 3, [1, 8, 12, 2, 1, 0]), (80, .istore 6, 2, []), (82, .aload_n 0, 1, []), (83, .iload 5, 2, []), (85, .iconst 1, 1, []), (86, .invokevirtual 81, 3, [1, 8, 12, 2, 1, 0]), (89, .istore 7, 2, []), (91, .aload_n 0, 1, []), (92, .iload 5, 2, []), (94, .iconst 2, 1, []), (95, .invokevirtual 81, 3, [1, 8, 12, 2, 1, 0]), (98, .istore 8, 2, []), (100, .aload_n 0, 1, []), (101, .getfield 55, 3, [12, 23]), (104, .iload 6, 2, []), (106, .iaload, 1, []), (107, .iload 8, 2, []), (109, .iadd, 1, []), (110, .aload_n 0, 1, []), (111, .getfield 55, 3, [12, 23]), (114, .iload 7, 2, []), (116, .iaload, 1, []), (117, .if_icmp .ge 20, 3, [137]), (120, .aload_n 0, 1, []), (121, .getfield 55, 3, [12, 23]), (124, .iload 7, 2, []), (126, .aload_n 0, 1, []), (127, .getfield 55, 3, [12, 23]), (130, .iload 6, 2, []), (132, .iaload, 1, []), (133, .iload 8, 2, []), (135, .iadd, 1, []), (136, .iastore, 1, []), (137, .aload_n 0, 1, []), (138, .getfield 55, 3, [12, 23]), (141, .iload 7, 2, []), (143, .iaload, 1, []), (144, .iload 8, 2, []), (146, .iadd, 1, []), (147, .aload_n 0, 1, []), (148, .getfield 55, 3, [12, 23]), (151, .iload 6, 2, []), (153, .iaload, 1, []), (154, .if_icmp .ge 20, 3, [174]), (157, .aload_n 0, 1, []), (158, .getfield 55, 3, [12, 23]), (161, .iload 6, 2, []), (163, .aload_n 0, 1, []), (164, .getfield 55, 3, [12, 23]), (167, .iload 7, 2, []), (169, .iaload, 1, []), (170, .iload 8, 2, []), (172, .iadd, 1, []), (173, .iastore, 1, []), (174, .iinc 5 1, 3, []), (177, .goto (-128), 3, [49]), (180, .iinc 4 1, 3, []), (183, .goto (-144), 3, [39]), (186, .aload_n 0, 1, []), (187, .getfield 55, 3, [12, 23]), (190, .iload_n 3, 1, []), (191, .iaload, 1, []), (192, .sipush 1000, 3, []), (195, .if_icmp .ge 12, 3, [207]), (198, .aload_n 0, 1, []), (199, .getfield 55, 3, [12, 23]), (202, .iload_n 3, 1, []), (203, .iaload, 1, []), (204, .goto 5, 3, [209]), (207, .bipush (-4), 2, []), (209, .ireturn, 1, [])]
def xm_40 : xM := (yX12_farOf, cX12_farOf, 9, 1, 0, (Option.some Jvm.ClassFile.FieldType.int), xk_40, [(3, [5, 6, 7, 8]), (39, [2, 5, 6, 7, 8]), (49, [2, 6, 7, 8]), (137, [2])])
def xk_41 : List xE := [(0, .iload_n 1, 1, []), (1, .invokestatic 157, 3, [0, 6, 1, 1, 0]), (4, .ifCond .eq 16, 3, [20]), (7, .aload_n 0, 1, []), (8, .iload_n 2, 1, []), (9, .iload_n 3, 1, []), (10, .invokevirtual 147, 3, [1, 7, 12, 2, 1, 0]), (13, .ifCond .eq 7, 3, [20]), (16, .iconst 1, 1, []), (17, .goto 4, 3, [21]), (20, .iconst 0, 1, []), (21, .ireturn, 1, [])]
def xm_41 : xM := (yX12_isGoodWay, cX12_isGoodWay, 4, 1, 0, (Option.some Jvm.ClassFile.FieldType.boolean), xk_41, [])
def xk_42 : List xE := [(0, .aload_n 0, 1, []), (1, .iload_n 1, 1, []), (2, .iload_n 2, 1, []), (3, .iload_n 3, 1, []), (4, .invokevirtual 193, 3, [1, 41, 12, 3, 1, 0]), (7, .ifCond .eq 13, 3, [20]), (10, .aload_n 0, 1, []), (11, .iload_n 1, 1, []), (12, .iload_n 2, 1, []), (13, .iload_n 3, 1, []), (14, .invokevirtual 197, 3, [1, 40, 12, 3, 1, 0]), (17, .goto 4, 3, [21]), (20, .iconst (-1), 1, []), (21, .ireturn, 1, [])]
def xm_42 : xM := (yX12_far, cX12_far, 4, 1, 0, (Option.some Jvm.ClassFile.FieldType.int), xk_42, [])
def xk_43 : List xE := [(0, .iconst 0, 1, []), (1, .istore 4, 2, []), (3, .iconst 0, 1, []), (4, .istore 5, 2, []), (6, .iload 5, 2, []), (8, .iload_n 3, 1, []), (9, .if_icmp .ge 54, 3, [63]), (12, .iload 4, 2, []), (14, .aload_n 0, 1, []), (15, .iload 5, 2, []), (17, .iload_n 2, 1, []), (18, .invokevirtual 160, 3, [1, 17, 12, 2, 1, 0]), (21, .ifCond .eq 32, 3, [53]), (24, .iload_n 1, 1, []), (25, .aload_n 0, 1, []), (26, .iload 5, 2, []), (28, .iconst 0, 1, []), (29, .invokevirtual 81, 3, [1, 8, 12, 2, 1, 0]), (32, .ishr, 1, []), (33, .iconst 1, 1, []), (34, .iand, 1, []), (35, .iload_n 1, 1, []), (36, .aload_n 0, 1, []), (37, .iload 5, 2, []), (39, .iconst 1, 1, []), (40, .invokevirtual 81, 3, [1, 8, 12, 2, 1, 0]), (43, .ishr, 1, []), (44, .iconst 1, 1, []), (45, .iand, 1, []), (46, .if_icmp .eq 7, 3, [53]), (49, .iconst 1, 1, []), (50, .goto 4, 3, [54]), (53, .iconst 0, 1, []), (54, .iadd, 1, []), (55, .istore 4, 2, []), (57, .iinc 5 1, 3, []), (60, .goto (-54), 3, [6]), (63, .iload 4, 2, []), (65, .ireturn, 1, [])]
def xm_43 : xM := (yX12_leads, cX12_leads, 6, 1, 0, (Option.some Jvm.ClassFile.FieldType.int), xk_43, [(6, [])])
def xk_44 : List xE := [(0, .bipush (-4), 2, []), (2, .istore 5, 2, []), (4, .aload_n 0, 1, []), (5, .bipush (-4), 2, []), (7, .putfield 200, 3, [12, 24]), (10, .iconst 0, 1, []), (11, .istore 6, 2, []), (13, .iload 6, 2, []), (15, .iconst 1, 1, []), (16, .aload_n 0, 1, []), (17, .getfield 9, 3, [12, 0]), (20, .iconst 0, 1, []), (21, .iaload, 1, []), (22, .ishl, 1, []), (23, .if_icmp .ge 67, 3, [90]), (26, .iload 6, 2, []), (28, .iload_n 2, 1, []), (29, .ishr, 1, []), (30, .iconst 1, 1, []), (31, .iand, 1, []), (32, .ifCond .eq 52, 3, [84]), (35, .iload 6, 2, []), (37, .iload_n 3, 1, []), (38, .ishr, 1, []), (39, .iconst 1, 1, []), (40, .iand, 1, []), (41, .iconst 1, 1, []), (42, .if_icmp .ne 6, 3, [48]), (45, .goto 39, 3, [84]), (48, .aload_n 0, 1, []), (49, .iload 6, 2, []), (51, .iload_n 1, 1, []), (52, .iload 4, 2, []), (54, .invokevirtual 203, 3, [1, 43, 12, 3, 1, 0]), (57, .istore 7, 2, []), (59, .iload 5, 2, []), (61, .ifCond .lt 13, 3, [74]), (64, .iload 7, 2, []), (66, .iload 5, 2, []), (68, .if_icmp .lt 6, 3, [74]), (71, .goto 13, 3, [84]), (74, .iload 7, 2, []), (76, .istore 5, 2, []), (78, .aload_n 0, 1, []), (79, .iload 6, 2, []), (81, .putfield 200, 3, [12, 24]), (84, .iinc 6 1, 3, []), (87, .goto (-74), 3, [13]), (90, .iload 5, 2, []), (92, .ireturn, 1, [])]
def xm_44 : xM := (yX12_manyOf, cX12_manyOf, 8, 1, 0, (Option.some Jvm.ClassFile.FieldType.int), xk_44, [(13, [7])])
def xk_45 : List xE := [(0, .aload_n 0, 1, []), (1, .iload_n 1, 1, []), (2, .iload_n 2, 1, []), (3, .iload_n 3, 1, []), (4, .invokevirtual 193, 3, [1, 41, 12, 3, 1, 0]), (7, .ifCond .eq 14, 3, [21]), (10, .iload 4, 2, []), (12, .i2l, 1, []), (13, .lconst 0, 1, []), (14, .lconst 1, 1, []), (15, .invokestatic 67, 3, [0, 1, 3, 1, 0]), (18, .ifCond .ne 5, 3, [23]), (21, .iconst (-1), 1, []), (22, .ireturn, 1, []), (23, .aload_n 0, 1, []), (24, .iload_n 1, 1, []), (25, .iload_n 2, 1, []), (26, .iload_n 3, 1, []), (27, .aload_n 0, 1, []), (28, .getfield 9, 3, [12, 0]), (31, .iconst 1, 1, []), (32, .iaload, 1, []), (33, .invokevirtual 206, 3, [1, 44, 12, 4, 1, 0]), (36, .istore 5, 2, []), (38, .iload 4, 2, []), (40, .ifCond .ne 8, 3, [48]), (43, .iload 5, 2, []), (45, .goto 7, 3, [52]), (48, .aload_n 0, 1, []), (49, .getfield 200, 3, [12, 24]), (52, .ireturn, 1, [])]
def xm_45 : xM := (yX12_many, cX12_many, 6, 1, 0, (Option.some Jvm.ClassFile.FieldType.int), xk_45, [])
def xk_46 : List xE := [(0, .iconst 0, 1, []), (1, .istore 4, 2, []), (3, .iload 4, 2, []), (5, .iconst 1, 1, []), (6, .aload_n 0, 1, []), (7, .getfield 9, 3, [12, 0]), (10, .iconst 0, 1, []), (11, .iaload, 1, []), (12, .ishl, 1, []), (13, .if_icmp .ge 46, 3, [59]), (16, .iload 4, 2, []), (18, .iload_n 2, 1, []), (19, .ishr, 1, []), (20, .iconst 1, 1, []), (21, .iand, 1, []), (22, .iconst 1, 1, []), (23, .if_icmp .ne 30, 3, [53]), (26, .aload_n 0, 1, []), (27, .iload 4, 2, []), (29, .iload_n 1, 1, []), (30, .aload_n 0, 1, []), (31, .getfield 9, 3, [12, 0]), (34, .iconst 1, 1, []), (35, .iaload, 1, []), (36, .invokevirtual 203, 3, [1, 43, 12, 3, 1, 0]), (39, .iload_n 3, 1, []), (40, .iload 4, 2, []), (42, .iconst (-1), 1, []), (43, .ixor, 1, []), (44, .iand, 1, []), (45, .invokestatic 85, 3, [0, 15, 1, 1, 0]), (48, .if_icmp .ge 5, 3, [53]), (51, .iconst 0, 1, []), (52, .ireturn, 1, []), (53, .iinc 4 1, 3, []), (56, .goto (-53), 3, [3]), (59, .iconst 1, 1, []), (60, .ireturn, 1, [])]
def xm_46 : xM := (yX12_canServe, cX12_canServe, 5, 1, 0, (Option.some Jvm.ClassFile.FieldType.boolean), xk_46, [(3, [])])
def xk_47 : List xE := [(0, .iload_n 1, 1, []), (1, .invokestatic 157, 3, [0, 6, 1, 1, 0]), (4, .ifCond .eq 51, 3, [55]), (7, .aload_n 0, 1, []), (8, .iload_n 2, 1, []), (9, .invokevirtual 73, 3, [1, 3, 12, 1, 1, 0]), (12, .ifCond .eq 43, 3, [55]), (15, .iload_n 3, 1, []), (16, .i2l, 1, []), (17, .lconst 0, 1, []), (18, .iconst 1, 1, []), (19, .aload_n 0, 1, []), (20, .getfield 9, 3, [12, 0]), (23, .iconst 0, 1, []), (24, .iaload, 1, []), (25, .ishl, 1, []), (26, .iconst 1, 1, []), (27, .isub, 1, []), (28, .i2l, 1, []), (29, .invokestatic 67, 3, [0, 1, 3, 1, 0]), (32, .ifCond .eq 23, 3, [55]), (35, .iload_n 3, 1, []), (36, .iload_n 2, 1, []), (37, .ishr, 1, []), (38, .iconst 1, 1, []), (39, .iand, 1, []), (40, .iconst 1, 1, []), (41, .if_icmp .eq 14, 3, [55]), (44, .iload 4, 2, []), (46, .i2l, 1, []), (47, .lconst 0, 1, []), (48, .lconst 1, 1, []), (49, .invokestatic 67, 3, [0, 1, 3, 1, 0]), (52, .ifCond .ne 5, 3, [57]), (55, .iconst (-1), 1, []), (56, .ireturn, 1, []), (57, .iconst 0, 1, []), (58, .istore 5, 2, []), (60, .iconst 1, 1, []), (61, .istore 6, 2, []), (63, .iload 6, 2, []), (65, .iload_n 3, 1, []), (66, .if_icmp .gt 46, 3, [112]), (69, .iload 6, 2, []), (71, .iload_n 3, 1, []), (72, .iconst (-1), 1, []), (73, .ixor, 1, []), (74, .iand, 1, []), (75, .ifCond .ne 31, 3, [106]), (78, .iload 6, 2, []), (80, .invokestatic 85, 3, [0, 15, 1, 1, 0]), (83, .iload 5, 2, []), (85, .invokestatic 85, 3, [0, 15, 1, 1, 0]), (88, .if_icmp .le 18, 3, [106]), (91, .aload_n 0, 1, []), (92, .iload_n 1, 1, []), (93, .iload_n 2, 1, []), (94, .iload 6, 2, []), (96, .invokevirtual 209, 3, [1, 46, 12, 3, 1, 0]), (99, .ifCond .eq 7, 3, [106]), (102, .iload 6, 2, []), (104, .istore 5, 2, []), (106, .iinc 6 1, 3, []), (109, .goto (-46), 3, [63]), (112, .iload 4, 2, []), (114, .ifCond .ne 11, 3, [125]), (117, .iload 5, 2, []), (119, .invokestatic 85, 3, [0, 15, 1, 1, 0]), (122, .goto 5, 3, [127]), (125, .iload 5, 2, []), (127, .ireturn, 1, [])]
def xm_47 : xM := (yX12_served, cX12_served, 7, 1, 0, (Option.some Jvm.ClassFile.FieldType.int), xk_47, [(63, [])])
def xk_48 : List xE := [(0, .aload_n 0, 1, []), (1, .iload_n 1, 1, []), (2, .iload_n 2, 1, []), (3, .iload_n 3, 1, []), (4, .invokevirtual 193, 3, [1, 41, 12, 3, 1, 0]), (7, .ifCond .eq 14, 3, [21]), (10, .iload 4, 2, []), (12, .i2l, 1, []), (13, .lconst 0, 1, []), (14, .lconst 1, 1, []), (15, .invokestatic 67, 3, [0, 1, 3, 1, 0]), (18, .ifCond .ne 5, 3, [23]), (21, .iconst (-1), 1, []), (22, .ireturn, 1, []), (23, .bipush (-4), 2, []), (25, .istore 5, 2, []), (27, .bipush (-4), 2, []), (29, .istore 6, 2, []), (31, .iconst 0, 1, []), (32, .istore 7, 2, []), (34, .iload 7, 2, []), (36, .aload_n 0, 1, []), (37, .getfield 9, 3, [12, 0]), (40, .iconst 1, 1, []), (41, .iaload, 1, []), (42, .if_icmp .ge 98, 3, [140]), (45, .aload_n 0, 1, []), (46, .iload 7, 2, []), (48, .iload_n 1, 1, []), (49, .invokevirtual 160, 3, [1, 17, 12, 2, 1, 0]), (52, .ifCond .ne 6, 3, [58]), (55, .goto 79, 3, [134]), (58, .aload_n 0, 1, []), (59, .iload 7, 2, []), (61, .iconst 3, 1, []), (62, .aload_n 0, 1, []), (63, .iload 7, 2, []), (65, .iconst 3, 1, []), (66, .invokevirtual 81, 3, [1, 8, 12, 2, 1, 0]), (69, .iconst 1, 1, []), (70, .iload_n 1, 1, []), (71, .ishl, 1, []), (72, .ior, 1, []), (73, .invokevirtual 123, 3, [1, 9, 12, 3, 0, 0]), (76, .aload_n 0, 1, []), (77, .iload_n 1, 1, []), (78, .iload_n 2, 1, []), (79, .iload_n 3, 1, []), (80, .aload_n 0, 1, []), (81, .getfield 9, 3, [12, 0]), (84, .iconst 1, 1, []), (85, .iaload, 1, []), (86, .invokevirtual 206, 3, [1, 44, 12, 4, 1, 0]), (89, .istore 8, 2, []), (91, .aload_n 0, 1, []), (92, .iload 7, 2, []), (94, .iconst 3, 1, []), (95, .aload_n 0, 1, []), (96, .iload 7, 2, []), (98, .iconst 3, 1, []), (99, .invokevirtual 81, 3, [1, 8, 12, 2, 1, 0]), (102, .iconst 1, 1, []), (103, .iload_n 1, 1, []), (104, .ishl, 1, []), (105, .iconst (-1), 1, []), (106, .ixor, 1, []), (107, .iand, 1, []), (108, .invokevirtual 123, 3, [1, 9, 12, 3, 0, 0]), (111, .iload 5, 2, []), (113, .ifCond .lt 13, 3, [126]), (116, .iload 8, 2, []), (118, .iload 6, 2, []), (120, .if_icmp .lt 6, 3, [126]), (123, .goto 11, 3, [134]), (126, .iload 7, 2, []), (128, .istore 5, 2, []), (130, .iload 8, 2, []), (132, .istore 6, 2, []), (134, .iinc 7 1, 3, []), (137, .goto (-103), 3, [34]), (140, .iload 4, 2, []), (142, .ifCond .ne 8, 3, [150]), (145, .iload 5, 2, []), (147, .goto 5, 3, [152]), (150, .iload 6, 2, []), (152, .ireturn, 1, [])]
def xm_48 : xM := (yX12_spite, cX12_spite, 9, 1, 0, (Option.some Jvm.ClassFile.FieldType.int), xk_48, [(34, [8])])
def xk_49 : List xE := [(0, .aload_n 0, 1, []), (1, .iload_n 1, 1, []), (2, .invokevirtual 154, 3, [1, 4, 12, 1, 1, 0]), (5, .ifCond .eq 14, 3, [19]), (8, .aload_n 0, 1, []), (9, .iload_n 2, 1, []), (10, .iload_n 3, 1, []), (11, .iload 4, 2, []), (13, .invokevirtual 193, 3, [1, 41, 12, 3, 1, 0]), (16, .ifCond .ne 5, 3, [21]), (19, .iconst (-1), 1, []), (20, .ireturn, 1, []), (21, .aload_n 0, 1, []), (22, .iload_n 2, 1, []), (23, .iload_n 3, 1, []), (24, .iload 4, 2, []), (26, .invokevirtual 197, 3, [1, 40, 12, 3, 1, 0]), (29, .istore 5, 2, []), (31, .iload 5, 2, []), (33, .ifCond .lt 12, 3, [45]), (36, .aload_n 0, 1, []), (37, .iload_n 1, 1, []), (38, .iload_n 2, 1, []), (39, .invokevirtual 160, 3, [1, 17, 12, 2, 1, 0]), (42, .ifCond .ne 5, 3, [47]), (45, .iconst 0, 1, []), (46, .ireturn, 1, []), (47, .aload_n 0, 1, []), (48, .iload_n 1, 1, []), (49, .iconst 3, 1, []), (50, .aload_n 0, 1, []), (51, .iload_n 1, 1, []), (52, .iconst 3, 1, []), (53, .invokevirtual 81, 3, [1, 8, 12, 2, 1, 0]), (56, .iconst 1, 1, []), (57, .iload_n 2, 1, []), (58, .ishl, 1, []), (59, .ior, 1, []), (60, .invokevirtual 123, 3, [1, 9, 12, 3, 0, 0]), (63, .aload_n 0, 1, []), (64, .iload_n 2, 1, []), (65, .iload_n 3, 1, []), (66, .iload 4, 2, []), (68, .invokevirtual 197, 3, [1, 40, 12, 3, 1, 0]), (71, .istore 6, 2, []), (73, .aload_n 0, 1, []), (74, .iload_n 1, 1, []), (75, .iconst 3, 1, []), (76, .aload_n 0, 1, []), (77, .iload_n 1, 1, []), (78, .iconst 3, 1, []), (79, .invokevirtual 81, 3, [1, 8, 12, 2, 1, 0]), (82, .iconst 1, 1, []), (83, .iload_n 2, 1, []), (84, .ishl, 1, []), (85, .iconst (-1), 1, []), (86, .ixor, 1, []), (87, .iand, 1, []), (88, .invokevirtual 123, 3, [1, 9, 12, 3, 0, 0]), (91, .iload 6, 2, []), (93, .ifCond .ge 8, 3, [101]), (96, .bipush 99, 2, []), (98, .goto 8, 3, [106]), (101, .iload 6, 2, []), (103, .iload 5, 2, []), (105, .isub, 1, []), (106, .ireturn, 1, [])]
def xm_49 : xM := (yX12_worth, cX12_worth, 7, 1, 0, (Option.some Jvm.ClassFile.FieldType.int), xk_49, [])
def xk_50 : List xE := [(0, .aload_n 0, 1, []), (1, .iload_n 1, 1, []), (2, .iload_n 2, 1, []), (3, .iload_n 3, 1, []), (4, .invokevirtual 193, 3, [1, 41, 12, 3, 1, 0]), (7, .ifCond .eq 14, 3, [21]), (10, .iload 4, 2, []), (12, .i2l, 1, []), (13, .lconst 0, 1, []), (14, .lconst 1, 1, []), (15, .invokestatic 67, 3, [0, 1, 3, 1, 0]), (18, .ifCond .ne 5, 3, [23]), (21, .iconst (-1), 1, []), (22, .ireturn, 1, []), (23, .bipush (-4), 2, []), (25, .istore 5, 2, []), (27, .bipush (-4), 2, []), (29, .istore 6, 2, []), (31, .iconst 0, 1, []), (32, .istore 7, 2, []), (34, .iload 7, 2, []), (36, .aload_n 0, 1, []), (37, .getfield 9, 3, [12, 0]), (40, .iconst 0, 1, []), (41, .iaload, 1, []), (42, .if_icmp .ge 87, 3, [129]), (45, .iload 7, 2, []), (47, .iconst 1, 1, []), (48, .iadd, 1, []), (49, .istore 8, 2, []), (51, .iload 8, 2, []), (53, .aload_n 0, 1, []), (54, .getfield 9, 3, [12, 0]), (57, .iconst 0, 1, []), (58, .iaload, 1, []), (59, .if_icmp .ge 64, 3, [123]), (62, .aload_n 0, 1, []), (63, .iload 7, 2, []), (65, .iload 8, 2, []), (67, .iconst 1, 1, []), (68, .invokevirtual 151, 3, [1, 27, 12, 3, 0, 0]), (71, .aload_n 0, 1, []), (72, .iload_n 1, 1, []), (73, .iload_n 2, 1, []), (74, .iload_n 3, 1, []), (75, .aload_n 0, 1, []), (76, .getfield 9, 3, [12, 0]), (79, .iconst 1, 1, []), (80, .iaload, 1, []), (81, .iconst 1, 1, []), (82, .iadd, 1, []), (83, .invokevirtual 206, 3, [1, 44, 12, 4, 1, 0]), (86, .istore 9, 2, []), (88, .iload 5, 2, []), (90, .ifCond .lt 13, 3, [103]), (93, .iload 9, 2, []), (95, .iload 6, 2, []), (97, .if_icmp .gt 6, 3, [103]), (100, .goto 17, 3, [117]), (103, .bipush 10, 2, []), (105, .iload 7, 2, []), (107, .imul, 1, []), (108, .iload 8, 2, []), (110, .iadd, 1, []), (111, .istore 5, 2, []), (113, .iload 9, 2, []), (115, .istore 6, 2, []), (117, .iinc 8 1, 3, []), (120, .goto (-69), 3, [51]), (123, .iinc 7 1, 3, []), (126, .goto (-92), 3, [34]), (129, .iload 4, 2, []), (131, .ifCond .ne 8, 3, [139]), (134, .iload 5, 2, []), (136, .goto 5, 3, [141]), (139, .iload 6, 2, []), (141, .ireturn, 1, [])]
def xm_50 : xM := (yX12_newly, cX12_newly, 10, 1, 0, (Option.some Jvm.ClassFile.FieldType.int), xk_50, [(34, [8, 9]), (51, [9])])
def xk_51 : List xE := [(0, .iconst 0, 1, []), (1, .istore 7, 2, []), (3, .iload 7, 2, []), (5, .aload_n 0, 1, []), (6, .getfield 9, 3, [12, 0]), (9, .iconst 1, 1, []), (10, .iaload, 1, []), (11, .if_icmp .ge 121, 3, [132]), (14, .aload_n 0, 1, []), (15, .iload 7, 2, []), (17, .iload_n 2, 1, []), (18, .invokevirtual 108, 3, [1, 16, 12, 2, 1, 0]), (21, .istore 8, 2, []), (23, .iload 8, 2, []), (25, .ifCond .lt 101, 3, [126]), (28, .iload 5, 2, []), (30, .iload 7, 2, []), (32, .ishr, 1, []), (33, .iconst 1, 1, []), (34, .iand, 1, []), (35, .iconst 1, 1, []), (36, .if_icmp .eq 90, 3, [126]), (39, .aload_n 0, 1, []), (40, .iload 7, 2, []), (42, .iload_n 1, 1, []), (43, .invokevirtual 160, 3, [1, 17, 12, 2, 1, 0]), (46, .ifCond .ne 6, 3, [52]), (49, .goto 77, 3, [126]), (52, .iload 6, 2, []), (54, .aload_n 0, 1, []), (55, .iload 7, 2, []), (57, .iconst 2, 1, []), (58, .invokevirtual 81, 3, [1, 8, 12, 2, 1, 0]), (61, .iadd, 1, []), (62, .istore 9, 2, []), (64, .iload 8, 2, []), (66, .iload_n 3, 1, []), (67, .if_icmp .ne 25, 3, [92]), (70, .aload_n 0, 1, []), (71, .getfield 212, 3, [12, 25]), (74, .ifCond .lt 12, 3, [86]), (77, .iload 9, 2, []), (79, .aload_n 0, 1, []), (80, .getfield 212, 3, [12, 25]), (83, .if_icmp .ge 9, 3, [92]), (86, .aload_n 0, 1, []), (87, .iload 9, 2, []), (89, .putfield 212, 3, [12, 25]), (92, .iload 4, 2, []), (94, .iload 8, 2, []), (96, .ishr, 1, []), (97, .iconst 1, 1, []), (98, .iand, 1, []), (99, .ifCond .ne 27, 3, [126]), (102, .aload_n 0, 1, []), (103, .iload_n 1, 1, []), (104, .iload 8, 2, []), (106, .iload_n 3, 1, []), (107, .iload 4, 2, []), (109, .iconst 1, 1, []), (110, .iload 8, 2, []), (112, .ishl, 1, []), (113, .ior, 1, []), (114, .iload 5, 2, []), (116, .iconst 1, 1, []), (117, .iload 7, 2, []), (119, .ishl, 1, []), (120, .ior, 1, []), (121, .iload 9, 2, []), (123, .invokevirtual 215, 3, [1, 51, 12, 6, 0, 0]), (126, .iinc 7 1, 3, []), (129, .goto (-126), 3, [3]), (132, .return_, 1, [])]
def xm_51 : xM := (yX12_roundFrom, cX12_roundFrom, 10, 0, 0, (Option.none : Option Jvm.ClassFile.FieldType), xk_51, [(3, [8, 9]), (92, [])])
def xk_52 : List xE := [(0, .iload_n 1, 1, []), (1, .invokestatic 157, 3, [0, 6, 1, 1, 0]), (4, .ifCond .eq 11, 3, [15]), (7, .aload_n 0, 1, []), (8, .iload_n 2, 1, []), (9, .invokevirtual 73, 3, [1, 3, 12, 1, 1, 0]), (12, .ifCond .ne 5, 3, [17]), (15, .iconst (-1), 1, []), (16, .ireturn, 1, []), (17, .aload_n 0, 1, []), (18, .bipush (-4), 2, []), (20, .putfield 212, 3, [12, 25]), (23, .aload_n 0, 1, []), (24, .iload_n 1, 1, []), (25, .iload_n 2, 1, []), (26, .iload_n 2, 1, []), (27, .iconst 1, 1, []), (28, .iload_n 2, 1, []), (29, .ishl, 1, []), (30, .iconst 0, 1, []), (31, .iconst 0, 1, []), (32, .invokevirtual 215, 3, [1, 51, 12, 6, 0, 0]), (35, .aload_n 0, 1, []), (36, .getfield 212, 3, [12, 25]), (39, .ireturn, 1, [])]
def xm_52 : xM := (yX12_round, cX12_round, 3, 1, 0, (Option.some Jvm.ClassFile.FieldType.int), xk_52, [])
def xk_53 : List xE := [(0, .aload_n 0, 1, []), (1, .iload_n 1, 1, []), (2, .iload_n 2, 1, []), (3, .iload_n 3, 1, []), (4, .iload 4, 2, []), (6, .invokevirtual 188, 3, [1, 36, 12, 4, 1, 0]), (9, .ifCond .ne 5, 3, [14]), (12, .iconst (-1), 1, []), (13, .ireturn, 1, []), (14, .aload_n 0, 1, []), (15, .invokevirtual 219, 3, [1, 13, 12, 0, 0, 0]), (18, .iconst 0, 1, []), (19, .istore 5, 2, []), (21, .iload 5, 2, []), (23, .bipush 9, 2, []), (25, .if_icmp .ge 21, 3, [46]), (28, .aload_n 0, 1, []), (29, .iload_n 1, 1, []), (30, .iload_n 2, 1, []), (31, .iload_n 3, 1, []), (32, .iload 4, 2, []), (34, .invokevirtual 169, 3, [1, 22, 12, 4, 1, 0]), (37, .ifCond .eq 9, 3, [46]), (40, .iinc 5 1, 3, []), (43, .goto (-22), 3, [21]), (46, .aload_n 0, 1, []), (47, .invokevirtual 222, 3, [1, 14, 12, 0, 0, 0]), (50, .iload 5, 2, []), (52, .ireturn, 1, [])]
def xm_53 : xM := (yX12_often, cX12_often, 6, 1, 0, (Option.some Jvm.ClassFile.FieldType.int), xk_53, [(21, [])])
def xk_54 : List xE := [(0, .aload_n 0, 1, []), (1, .iload_n 1, 1, []), (2, .iconst 0, 1, []), (3, .invokevirtual 175, 3, [1, 29, 12, 2, 1, 0]), (6, .istore_n 2, 1, []), (7, .iload_n 2, 1, []), (8, .ifCond .eq 5, 3, [13]), (11, .iload_n 2, 1, []), (12, .ireturn, 1, []), (13, .aload_n 0, 1, []), (14, .getfield 28, 3, [12, 6]), (17, .iload_n 1, 1, []), (18, .iaload, 1, []), (19, .iconst 4, 1, []), (20, .irem, 1, []), (21, .ifCond .ne 14, 3, [35]), (24, .aload_n 0, 1, []), (25, .getfield 28, 3, [12, 6]), (28, .iload_n 1, 1, []), (29, .iaload, 1, []), (30, .bipush 20, 2, []), (32, .if_icmp .le 6, 3, [38]), (35, .bipush (-13), 2, []), (37, .ireturn, 1, []), (38, .iconst 0, 1, []), (39, .istore_n 3, 1, []), (40, .iload_n 3, 1, []), (41, .aload_n 0, 1, []), (42, .getfield 28, 3, [12, 6]), (45, .iload_n 1, 1, []), (46, .iaload, 1, []), (47, .if_icmp .ge 49, 3, [96]), (50, .aload_n 0, 1, []), (51, .aload_n 0, 1, []), (52, .iload_n 1, 1, []), (53, .iload_n 3, 1, []), (54, .invokevirtual 225, 3, [1, 55, 12, 2, 1, 0]), (57, .aload_n 0, 1, []), (58, .iload_n 1, 1, []), (59, .iload_n 3, 1, []), (60, .iconst 1, 1, []), (61, .iadd, 1, []), (62, .invokevirtual 225, 3, [1, 55, 12, 2, 1, 0]), (65, .aload_n 0, 1, []), (66, .iload_n 1, 1, []), (67, .iload_n 3, 1, []), (68, .iconst 2, 1, []), (69, .iadd, 1, []), (70, .invokevirtual 225, 3, [1, 55, 12, 2, 1, 0]), (73, .aload_n 0, 1, []), (74, .iload_n 1, 1, []), (75, .iload_n 3, 1, []), (76, .iconst 3, 1, []), (77, .iadd, 1, []), (78, .invokevirtual 225, 3, [1, 55, 12, 2, 1, 0]), (81, .invokevirtual 188, 3, [1, 36, 12, 4, 1, 0]), (84, .ifCond .ne 6, 3, [90]), (87, .bipush (-13), 2, []), (89, .ireturn, 1, []), (90, .iinc 3 4, 3, []), (93, .goto (-53), 3, [40]), (96, .iconst 0, 1, []), (97, .ireturn, 1, [])]
def xm_54 : xM := (yX12_wrongCarriages, cX12_wrongCarriages, 4, 1, 0, (Option.some Jvm.ClassFile.FieldType.int), xk_54, [(40, [2])])
def xk_55 : List xE := [(0, .aload_n 0, 1, []), (1, .getfield 31, 3, [12, 7]), (4, .bipush 100, 2, []), (6, .iload_n 1, 1, []), (7, .imul, 1, []), (8, .iload_n 2, 1, []), (9, .iadd, 1, []), (10, .iaload, 1, []), (11, .ireturn, 1, [])]
def xm_55 : xM := (yX12_told, cX12_told, 3, 1, 0, (Option.some Jvm.ClassFile.FieldType.int), xk_55, [])
def xk_56 : List xE := [(0, .aload_n 0, 1, []), (1, .aload_n 0, 1, []), (2, .iload_n 1, 1, []), (3, .iconst 4, 1, []), (4, .iload_n 2, 1, []), (5, .imul, 1, []), (6, .invokevirtual 225, 3, [1, 55, 12, 2, 1, 0]), (9, .aload_n 0, 1, []), (10, .iload_n 1, 1, []), (11, .iconst 4, 1, []), (12, .iload_n 2, 1, []), (13, .imul, 1, []), (14, .iconst 1, 1, []), (15, .iadd, 1, []), (16, .invokevirtual 225, 3, [1, 55, 12, 2, 1, 0]), (19, .aload_n 0, 1, []), (20, .iload_n 1, 1, []), (21, .iconst 4, 1, []), (22, .iload_n 2, 1, []), (23, .imul, 1, []), (24, .iconst 2, 1, []), (25, .iadd, 1, []), (26, .invokevirtual 225, 3, [1, 55, 12, 2, 1, 0]), (29, .aload_n 0, 1, []), (30, .iload_n 1, 1, []), (31, .iconst 4, 1, []), (32, .iload_n 2, 1, []), (33, .imul, 1, []), (34, .iconst 3, 1, []), (35, .iadd, 1, []), (36, .invokevirtual 225, 3, [1, 55, 12, 2, 1, 0]), (39, .invokevirtual 169, 3, [1, 22, 12, 4, 1, 0]), (42, .ireturn, 1, [])]
def xm_56 : xM := (yX12_goesTold, cX12_goesTold, 3, 1, 0, (Option.some Jvm.ClassFile.FieldType.boolean), xk_56, [])
def xk_57 : List xE := [(0, .iload_n 1, 1, []), (1, .invokestatic 172, 3, [0, 2, 1, 1, 0]), (4, .ifCond .eq 13, 3, [17]), (7, .iload_n 2, 1, []), (8, .i2l, 1, []), (9, .lconst 0, 1, []), (10, .lconst 1, 1, []), (11, .invokestatic 67, 3, [0, 1, 3, 1, 0]), (14, .ifCond .ne 7, 3, [21]), (17, .iconst (-1), 1, []), (18, .goto 8, 3, [26]), (21, .aload_n 0, 1, []), (22, .iload_n 1, 1, []), (23, .invokevirtual 228, 3, [1, 54, 12, 1, 1, 0]), (26, .ireturn, 1, [])]
def xm_57 : xM := (yX12_wrongAsk, cX12_wrongAsk, 3, 1, 0, (Option.some Jvm.ClassFile.FieldType.int), xk_57, [])
def xk_58 : List xE := [(0, .aload_n 0, 1, []), (1, .iload_n 1, 1, []), (2, .iload_n 2, 1, []), (3, .invokevirtual 231, 3, [1, 57, 12, 2, 1, 0]), (6, .istore_n 3, 1, []), (7, .iload_n 3, 1, []), (8, .ifCond .eq 5, 3, [13]), (11, .iload_n 3, 1, []), (12, .ireturn, 1, []), (13, .aload_n 0, 1, []), (14, .invokevirtual 219, 3, [1, 13, 12, 0, 0, 0]), (17, .iconst 0, 1, []), (18, .istore 4, 2, []), (20, .iconst 0, 1, []), (21, .istore 5, 2, []), (23, .iconst 0, 1, []), (24, .istore 6, 2, []), (26, .iconst 4, 1, []), (27, .iload 6, 2, []), (29, .imul, 1, []), (30, .aload_n 0, 1, []), (31, .getfield 28, 3, [12, 6]), (34, .iload_n 1, 1, []), (35, .iaload, 1, []), (36, .if_icmp .ge 34, 3, [70]), (39, .aload_n 0, 1, []), (40, .iload_n 1, 1, []), (41, .iload 6, 2, []), (43, .invokevirtual 234, 3, [1, 56, 12, 2, 1, 0]), (46, .ifCond .ne 6, 3, [52]), (49, .goto 15, 3, [64]), (52, .iinc 4 1, 3, []), (55, .iload 5, 2, []), (57, .aload_n 0, 1, []), (58, .getfield 95, 3, [12, 18]), (61, .iadd, 1, []), (62, .istore 5, 2, []), (64, .iinc 6 1, 3, []), (67, .goto (-41), 3, [26]), (70, .aload_n 0, 1, []), (71, .invokevirtual 222, 3, [1, 14, 12, 0, 0, 0]), (74, .iload_n 2, 1, []), (75, .ifCond .ne 8, 3, [83]), (78, .iload 4, 2, []), (80, .goto 5, 3, [85]), (83, .iload 5, 2, []), (85, .ireturn, 1, [])]
def xm_58 : xM := (yX12_run, cX12_run, 7, 1, 0, (Option.some Jvm.ClassFile.FieldType.int), xk_58, [(26, [3])])
def xk_59 : List xE := [(0, .aload_n 0, 1, []), (1, .invokevirtual 219, 3, [1, 13, 12, 0, 0, 0]), (4, .iconst 0, 1, []), (5, .istore_n 2, 1, []), (6, .iconst 1, 1, []), (7, .istore_n 3, 1, []), (8, .iconst 0, 1, []), (9, .istore 4, 2, []), (11, .iconst 4, 1, []), (12, .iload 4, 2, []), (14, .imul, 1, []), (15, .aload_n 0, 1, []), (16, .getfield 28, 3, [12, 6]), (19, .iload_n 1, 1, []), (20, .iaload, 1, []), (21, .if_icmp .ge 33, 3, [54]), (24, .iload_n 3, 1, []), (25, .ifCond .eq 29, 3, [54]), (28, .aload_n 0, 1, []), (29, .iload_n 1, 1, []), (30, .aload_n 0, 1, []), (31, .getfield 58, 3, [12, 26]), (34, .iload 4, 2, []), (36, .iaload, 1, []), (37, .invokevirtual 234, 3, [1, 56, 12, 2, 1, 0]), (40, .istore_n 3, 1, []), (41, .iload_n 2, 1, []), (42, .aload_n 0, 1, []), (43, .getfield 95, 3, [12, 18]), (46, .iadd, 1, []), (47, .istore_n 2, 1, []), (48, .iinc 4 1, 3, []), (51, .goto (-40), 3, [11]), (54, .aload_n 0, 1, []), (55, .invokevirtual 222, 3, [1, 14, 12, 0, 0, 0]), (58, .iload_n 3, 1, []), (59, .ifCond .ne 4, 3, [63]), (62, .return_, 1, []), (63, .aload_n 0, 1, []), (64, .dup, 1, []), (65, .getfield 237, 3, [12, 27]), (68, .iconst 1, 1, []), (69, .iadd, 1, []), (70, .putfield 237, 3, [12, 27]), (73, .aload_n 0, 1, []), (74, .getfield 240, 3, [12, 28]), (77, .ifCond .lt 11, 3, [88]), (80, .iload_n 2, 1, []), (81, .aload_n 0, 1, []), (82, .getfield 240, 3, [12, 28]), (85, .if_icmp .ge 8, 3, [93]), (88, .aload_n 0, 1, []), (89, .iload_n 2, 1, []), (90, .putfield 240, 3, [12, 28]), (93, .return_, 1, [])]
def xm_59 : xM := (yX12_goesBy, cX12_goesBy, 5, 0, 0, (Option.none : Option Jvm.ClassFile.FieldType), xk_59, [(11, []), (54, [1, 4])])
def xk_60 : List xE := [(0, .iconst 4, 1, []), (1, .iload_n 2, 1, []), (2, .imul, 1, []), (3, .aload_n 0, 1, []), (4, .getfield 28, 3, [12, 6]), (7, .iload_n 1, 1, []), (8, .iaload, 1, []), (9, .if_icmp .ne 9, 3, [18]), (12, .aload_n 0, 1, []), (13, .iload_n 1, 1, []), (14, .invokevirtual 243, 3, [1, 59, 12, 1, 0, 0]), (17, .return_, 1, []), (18, .iconst 0, 1, []), (19, .istore 4, 2, []), (21, .iconst 4, 1, []), (22, .iload 4, 2, []), (24, .imul, 1, []), (25, .aload_n 0, 1, []), (26, .getfield 28, 3, [12, 6]), (29, .iload_n 1, 1, []), (30, .iaload, 1, []), (31, .if_icmp .ge 44, 3, [75]), (34, .iload_n 3, 1, []), (35, .iload 4, 2, []), (37, .ishr, 1, []), (38, .iconst 1, 1, []), (39, .iand, 1, []), (40, .iconst 1, 1, []), (41, .if_icmp .ne 6, 3, [47]), (44, .goto 25, 3, [69]), (47, .aload_n 0, 1, []), (48, .getfield 58, 3, [12, 26]), (51, .iload_n 2, 1, []), (52, .iload 4, 2, []), (54, .iastore, 1, []), (55, .aload_n 0, 1, []), (56, .iload_n 1, 1, []), (57, .iload_n 2, 1, []), (58, .iconst 1, 1, []), (59, .iadd, 1, []), (60, .iload_n 3, 1, []), (61, .iconst 1, 1, []), (62, .iload 4, 2, []), (64, .ishl, 1, []), (65, .ior, 1, []), (66, .invokevirtual 247, 3, [1, 60, 12, 3, 0, 0]), (69, .iinc 4 1, 3, []), (72, .goto (-51), 3, [21]), (75, .return_, 1, [])]
def xm_60 : xM := (yX12_ordersFrom, cX12_ordersFrom, 5, 0, 0, (Option.none : Option Jvm.ClassFile.FieldType), xk_60, [(21, [])])
def xk_61 : List xE := [(0, .aload_n 0, 1, []), (1, .iload_n 1, 1, []), (2, .iload_n 2, 1, []), (3, .invokevirtual 231, 3, [1, 57, 12, 2, 1, 0]), (6, .istore_n 3, 1, []), (7, .iload_n 3, 1, []), (8, .ifCond .eq 5, 3, [13]), (11, .iload_n 3, 1, []), (12, .ireturn, 1, []), (13, .aload_n 0, 1, []), (14, .iconst 0, 1, []), (15, .putfield 237, 3, [12, 27]), (18, .aload_n 0, 1, []), (19, .bipush (-4), 2, []), (21, .putfield 240, 3, [12, 28]), (24, .aload_n 0, 1, []), (25, .iload_n 1, 1, []), (26, .iconst 0, 1, []), (27, .iconst 0, 1, []), (28, .invokevirtual 247, 3, [1, 60, 12, 3, 0, 0]), (31, .iload_n 2, 1, []), (32, .ifCond .ne 10, 3, [42]), (35, .aload_n 0, 1, []), (36, .getfield 237, 3, [12, 27]), (39, .goto 7, 3, [46]), (42, .aload_n 0, 1, []), (43, .getfield 240, 3, [12, 28]), (46, .ireturn, 1, [])]
def xm_61 : xM := (yX12_orders, cX12_orders, 4, 1, 0, (Option.some Jvm.ClassFile.FieldType.int), xk_61, [])
def xk_62 : List xE := [(0, .aload_n 0, 1, []), (1, .aload_n 0, 1, []), (2, .getfield 250, 3, [12, 29]), (5, .ldc 253, 2, [1103515245]), (7, .imul, 1, []), (8, .sipush 12345, 3, []), (11, .iadd, 1, []), (12, .putfield 250, 3, [12, 29]), (15, .aload_n 0, 1, []), (16, .getfield 250, 3, [12, 29]), (19, .ldc 254, 2, [2147483647]), (21, .iand, 1, []), (22, .ldc 255, 2, [65536]), (24, .idiv, 1, []), (25, .iload_n 1, 1, []), (26, .irem, 1, []), (27, .ireturn, 1, [])]
def xm_62 : xM := (yX12_drawn, cX12_drawn, 2, 1, 0, (Option.some Jvm.ClassFile.FieldType.int), xk_62, [])
def xk_63 : List xE := [(0, .iload_n 1, 1, []), (1, .i2l, 1, []), (2, .lconst 1, 1, []), (3, .ldc2_w 256, 3, [30]), (6, .invokestatic 67, 3, [0, 1, 3, 1, 0]), (9, .ifCond .ne 5, 3, [14]), (12, .iconst (-1), 1, []), (13, .ireturn, 1, []), (14, .aload_n 0, 1, []), (15, .getfield 9, 3, [12, 0]), (18, .iconst 2, 1, []), (19, .iaload, 1, []), (20, .ifCond .ne 6, 3, [26]), (23, .bipush (-3), 2, []), (25, .ireturn, 1, []), (26, .aload_n 0, 1, []), (27, .invokevirtual 219, 3, [1, 13, 12, 0, 0, 0]), (30, .aload_n 0, 1, []), (31, .iload_n 2, 1, []), (32, .putfield 250, 3, [12, 29]), (35, .iconst 0, 1, []), (36, .istore_n 3, 1, []), (37, .iconst 0, 1, []), (38, .istore 4, 2, []), (40, .iload 4, 2, []), (42, .iload_n 1, 1, []), (43, .if_icmp .ge 82, 3, [125]), (46, .aload_n 0, 1, []), (47, .aload_n 0, 1, []), (48, .getfield 9, 3, [12, 0]), (51, .iconst 2, 1, []), (52, .iaload, 1, []), (53, .invokevirtual 258, 3, [1, 62, 12, 1, 1, 0]), (56, .istore 5, 2, []), (58, .aload_n 0, 1, []), (59, .iconst 4, 1, []), (60, .invokevirtual 258, 3, [1, 62, 12, 1, 1, 0]), (63, .istore 6, 2, []), (65, .aload_n 0, 1, []), (66, .aload_n 0, 1, []), (67, .getfield 9, 3, [12, 0]), (70, .iconst 0, 1, []), (71, .iaload, 1, []), (72, .invokevirtual 258, 3, [1, 62, 12, 1, 1, 0]), (75, .istore 7, 2, []), (77, .aload_n 0, 1, []), (78, .aload_n 0, 1, []), (79, .getfield 9, 3, [12, 0]), (82, .iconst 0, 1, []), (83, .iaload, 1, []), (84, .invokevirtual 258, 3, [1, 62, 12, 1, 1, 0]), (87, .istore 8, 2, []), (89, .iload_n 3, 1, []), (90, .iload 7, 2, []), (92, .iload 8, 2, []), (94, .if_icmp .eq 22, 3, [116]), (97, .aload_n 0, 1, []), (98, .iload 5, 2, []), (100, .iload 6, 2, []), (102, .iload 7, 2, []), (104, .iload 8, 2, []), (106, .invokevirtual 169, 3, [1, 22, 12, 4, 1, 0]), (109, .ifCond .eq 7, 3, [116]), (112, .iconst 1, 1, []), (113, .goto 4, 3, [117]), (116, .iconst 0, 1, []), (117, .iadd, 1, []), (118, .istore_n 3, 1, []), (119, .iinc 4 1, 3, []), (122, .goto (-82), 3, [40]), (125, .aload_n 0, 1, []), (126, .invokevirtual 222, 3, [1, 14, 12, 0, 0, 0]), (129, .iload_n 3, 1, []), (130, .ireturn, 1, [])]
def xm_63 : xM := (yX12_seeded, cX12_seeded, 9, 1, 0, (Option.some Jvm.ClassFile.FieldType.int), xk_63, [(40, [2, 5, 6, 7, 8])])
def xk_64 : List xE := [(0, .aload_n 0, 1, []), (1, .iload_n 1, 1, []), (2, .iload_n 2, 1, []), (3, .invokevirtual 225, 3, [1, 55, 12, 2, 1, 0]), (6, .istore_n 3, 1, []), (7, .aload_n 0, 1, []), (8, .iload_n 1, 1, []), (9, .iload_n 2, 1, []), (10, .iconst 1, 1, []), (11, .iadd, 1, []), (12, .invokevirtual 225, 3, [1, 55, 12, 2, 1, 0]), (15, .istore 4, 2, []), (17, .aload_n 0, 1, []), (18, .iload_n 3, 1, []), (19, .invokevirtual 154, 3, [1, 4, 12, 1, 1, 0]), (22, .ifCond .ne 5, 3, [27]), (25, .iload_n 2, 1, []), (26, .ireturn, 1, []), (27, .iload 4, 2, []), (29, .invokestatic 157, 3, [0, 6, 1, 1, 0]), (32, .ifCond .eq 13, 3, [45]), (35, .aload_n 0, 1, []), (36, .iload_n 3, 1, []), (37, .iload 4, 2, []), (39, .invokevirtual 160, 3, [1, 17, 12, 2, 1, 0]), (42, .ifCond .ne 7, 3, [49]), (45, .iload_n 2, 1, []), (46, .iconst 1, 1, []), (47, .iadd, 1, []), (48, .ireturn, 1, []), (49, .aload_n 0, 1, []), (50, .iload_n 3, 1, []), (51, .iconst 3, 1, []), (52, .aload_n 0, 1, []), (53, .iload_n 3, 1, []), (54, .iconst 3, 1, []), (55, .invokevirtual 81, 3, [1, 8, 12, 2, 1, 0]), (58, .iconst 1, 1, []), (59, .iload 4, 2, []), (61, .ishl, 1, []), (62, .ior, 1, []), (63, .invokevirtual 123, 3, [1, 9, 12, 3, 0, 0]), (66, .bipush (-4), 2, []), (68, .ireturn, 1, [])]
def xm_64 : xM := (yX12_wrongTwo, cX12_wrongTwo, 5, 1, 0, (Option.some Jvm.ClassFile.FieldType.int), xk_64, [])
def xk_65 : List xE := [(0, .aload_n 0, 1, []), (1, .iload_n 1, 1, []), (2, .iconst (-1), 1, []), (3, .invokevirtual 175, 3, [1, 29, 12, 2, 1, 0]), (6, .istore_n 2, 1, []), (7, .iload_n 2, 1, []), (8, .ifCond .eq 5, 3, [13]), (11, .iload_n 2, 1, []), (12, .ireturn, 1, []), (13, .aload_n 0, 1, []), (14, .invokevirtual 219, 3, [1, 13, 12, 0, 0, 0]), (17, .bipush (-4), 2, []), (19, .istore_n 3, 1, []), (20, .iconst 0, 1, []), (21, .istore 4, 2, []), (23, .iload 4, 2, []), (25, .iconst 1, 1, []), (26, .iadd, 1, []), (27, .aload_n 0, 1, []), (28, .getfield 28, 3, [12, 6]), (31, .iload_n 1, 1, []), (32, .iaload, 1, []), (33, .if_icmp .ge 21, 3, [54]), (36, .iload_n 3, 1, []), (37, .ifCond .ge 17, 3, [54]), (40, .aload_n 0, 1, []), (41, .iload_n 1, 1, []), (42, .iload 4, 2, []), (44, .invokevirtual 261, 3, [1, 64, 12, 2, 1, 0]), (47, .istore_n 3, 1, []), (48, .iinc 4 2, 3, []), (51, .goto (-28), 3, [23]), (54, .aload_n 0, 1, []), (55, .invokevirtual 222, 3, [1, 14, 12, 0, 0, 0]), (58, .iload_n 3, 1, []), (59, .ifCond .ge 26, 3, [85]), (62, .aload_n 0, 1, []), (63, .getfield 28, 3, [12, 6]), (66, .iload_n 1, 1, []), (67, .iaload, 1, []), (68, .iconst 2, 1, []), (69, .irem, 1, []), (70, .iconst 1, 1, []), (71, .if_icmp .ne 14, 3, [85]), (74, .aload_n 0, 1, []), (75, .getfield 28, 3, [12, 6]), (78, .iload_n 1, 1, []), (79, .iaload, 1, []), (80, .iconst 1, 1, []), (81, .isub, 1, []), (82, .goto 4, 3, [86]), (85, .iload_n 3, 1, []), (86, .ireturn, 1, [])]
def xm_65 : xM := (yX12_judge, cX12_judge, 5, 1, 0, (Option.some Jvm.ClassFile.FieldType.int), xk_65, [(23, [2]), (54, [2, 4])])
def xk_66 : List xE := [(0, .aload_n 0, 1, []), (1, .getfield 9, 3, [12, 0]), (4, .aload_n 0, 1, []), (5, .getfield 13, 3, [12, 1]), (8, .invokestatic 77, 3, [0, 12, 2, 0, 0]), (11, .aload_n 0, 1, []), (12, .iconst 1, 1, []), (13, .putfield 264, 3, [12, 10]), (16, .aload_n 0, 1, []), (17, .getfield 9, 3, [12, 0]), (20, .iconst 1, 1, []), (21, .iaload, 1, []), (22, .ireturn, 1, [])]
def xm_66 : xM := (yX12_image, cX12_image, 1, 1, 0, (Option.some Jvm.ClassFile.FieldType.int), xk_66, [])
def xk_67 : List xE := [(0, .aload_n 0, 1, []), (1, .getfield 264, 3, [12, 10]), (4, .ifCond .ne 6, 3, [10]), (7, .bipush (-3), 2, []), (9, .ireturn, 1, []), (10, .aload_n 0, 1, []), (11, .getfield 13, 3, [12, 1]), (14, .aload_n 0, 1, []), (15, .getfield 9, 3, [12, 0]), (18, .invokestatic 77, 3, [0, 12, 2, 0, 0]), (21, .aload_n 0, 1, []), (22, .getfield 9, 3, [12, 0]), (25, .iconst 1, 1, []), (26, .iaload, 1, []), (27, .ireturn, 1, [])]
def xm_67 : xM := (yX12_restore, cX12_restore, 1, 1, 0, (Option.some Jvm.ClassFile.FieldType.int), xk_67, [])
def xk_68 : List xE := [(0, .iconst 0, 1, []), (1, .istore_n 2, 1, []), (2, .iload_n 1, 1, []), (3, .tableswitch 101 0 4 #[33, 33, 33, 40, 72], 33, [104, 0, 36, 1, 36, 2, 36, 3, 43, 4, 75]), (36, .aload_n 0, 1, []), (37, .getfield 9, 3, [12, 0]), (40, .iload_n 1, 1, []), (41, .iaload, 1, []), (42, .ireturn, 1, []), (43, .iconst 0, 1, []), (44, .istore_n 3, 1, []), (45, .iload_n 3, 1, []), (46, .aload_n 0, 1, []), (47, .getfield 9, 3, [12, 0]), (50, .iconst 1, 1, []), (51, .iaload, 1, []), (52, .if_icmp .ge 21, 3, [73]), (55, .iload_n 2, 1, []), (56, .aload_n 0, 1, []), (57, .iload_n 3, 1, []), (58, .iconst 3, 1, []), (59, .invokevirtual 81, 3, [1, 8, 12, 2, 1, 0]), (62, .invokestatic 85, 3, [0, 15, 1, 1, 0]), (65, .iadd, 1, []), (66, .istore_n 2, 1, []), (67, .iinc 3 1, 3, []), (70, .goto (-25), 3, [45]), (73, .iload_n 2, 1, []), (74, .ireturn, 1, []), (75, .iconst 0, 1, []), (76, .istore_n 3, 1, []), (77, .iload_n 3, 1, []), (78, .aload_n 0, 1, []), (79, .getfield 9, 3, [12, 0]), (82, .iconst 1, 1, []), (83, .iaload, 1, []), (84, .if_icmp .ge 18, 3, [102]), (87, .iload_n 2, 1, []), (88, .aload_n 0, 1, []), (89, .iload_n 3, 1, []), (90, .iconst 2, 1, []), (91, .invokevirtual 81, 3, [1, 8, 12, 2, 1, 0]), (94, .iadd, 1, []), (95, .istore_n 2, 1, []), (96, .iinc 3 1, 3, []), (99, .goto (-22), 3, [77]), (102, .iload_n 2, 1, []), (103, .ireturn, 1, []), (104, .iconst (-1), 1, []), (105, .ireturn, 1, [])]
def xm_68 : xM := (yX12_count, cX12_count, 4, 1, 0, (Option.some Jvm.ClassFile.FieldType.int), xk_68, [(45, [1]), (77, [1])])
def xk_69 : List xE := [(0, .iload_n 0, 1, []), (1, .tableswitch 69 1 7 #[43, 45, 49, 69, 55, 58, 65], 43, [70, 1, 44, 2, 46, 3, 50, 4, 70, 5, 56, 6, 59, 7, 66]), (44, .iconst 4, 1, []), (45, .ireturn, 1, []), (46, .iconst 4, 1, []), (47, .iload_n 1, 1, []), (48, .iadd, 1, []), (49, .ireturn, 1, []), (50, .iconst 5, 1, []), (51, .iconst 2, 1, []), (52, .iload_n 1, 1, []), (53, .imul, 1, []), (54, .iadd, 1, []), (55, .ireturn, 1, []), (56, .bipush 15, 2, []), (58, .ireturn, 1, []), (59, .bipush 10, 2, []), (61, .iconst 4, 1, []), (62, .iload_n 1, 1, []), (63, .imul, 1, []), (64, .iadd, 1, []), (65, .ireturn, 1, []), (66, .iconst 4, 1, []), (67, .iload_n 1, 1, []), (68, .isub, 1, []), (69, .ireturn, 1, []), (70, .iconst 5, 1, []), (71, .ireturn, 1, [])]
def xm_69 : xM := (yX12_wageBy, cX12_wageBy, 2, 1, 0, (Option.some Jvm.ClassFile.FieldType.int), xk_69, [])
def xk_70 : List xE := [(0, .iload_n 1, 1, []), (1, .invokestatic 172, 3, [0, 2, 1, 1, 0]), (4, .ifCond .eq 43, 3, [47]), (7, .iload_n 2, 1, []), (8, .i2l, 1, []), (9, .lconst 0, 1, []), (10, .lconst 1, 1, []), (11, .invokestatic 67, 3, [0, 1, 3, 1, 0]), (14, .ifCond .eq 33, 3, [47]), (17, .iload_n 2, 1, []), (18, .iconst 1, 1, []), (19, .if_icmp .ne 30, 3, [49]), (22, .iload_n 3, 1, []), (23, .i2l, 1, []), (24, .lconst 0, 1, []), (25, .ldc2_w 65, 3, [7]), (28, .invokestatic 67, 3, [0, 1, 3, 1, 0]), (31, .ifCond .eq 16, 3, [47]), (34, .iload 4, 2, []), (36, .i2l, 1, []), (37, .lconst 0, 1, []), (38, .ldc2_w 268, 3, [9]), (41, .invokestatic 67, 3, [0, 1, 3, 1, 0]), (44, .ifCond .ne 5, 3, [49]), (47, .iconst (-1), 1, []), (48, .ireturn, 1, []), (49, .aload_n 0, 1, []), (50, .getfield 22, 3, [12, 4]), (53, .iload_n 1, 1, []), (54, .iload_n 2, 1, []), (55, .iastore, 1, []), (56, .aload_n 0, 1, []), (57, .getfield 34, 3, [12, 8]), (60, .iload_n 1, 1, []), (61, .iload_n 3, 1, []), (62, .iastore, 1, []), (63, .aload_n 0, 1, []), (64, .getfield 37, 3, [12, 9]), (67, .iload_n 1, 1, []), (68, .iload 4, 2, []), (70, .iastore, 1, []), (71, .iconst 0, 1, []), (72, .ireturn, 1, [])]
def xm_70 : xM := (yX12_keep, cX12_keep, 5, 1, 0, (Option.some Jvm.ClassFile.FieldType.int), xk_70, [(49, [])])
def xk_71 : List xE := [(0, .iload_n 1, 1, []), (1, .invokestatic 172, 3, [0, 2, 1, 1, 0]), (4, .ifCond .eq 21, 3, [25]), (7, .iload_n 2, 1, []), (8, .i2l, 1, []), (9, .lconst 0, 1, []), (10, .ldc2_w 191, 3, [2]), (13, .invokestatic 67, 3, [0, 1, 3, 1, 0]), (16, .ifCond .eq 9, 3, [25]), (19, .iload_n 3, 1, []), (20, .bipush 100, 2, []), (22, .if_icmp .le 5, 3, [27]), (25, .iconst (-1), 1, []), (26, .ireturn, 1, []), (27, .iload_n 3, 1, []), (28, .ifCond .ge 6, 3, [34]), (31, .bipush (-14), 2, []), (33, .ireturn, 1, []), (34, .aload_n 0, 1, []), (35, .getfield 22, 3, [12, 4]), (38, .iload_n 1, 1, []), (39, .iconst 2, 1, []), (40, .iastore, 1, []), (41, .aload_n 0, 1, []), (42, .getfield 25, 3, [12, 5]), (45, .iload_n 1, 1, []), (46, .iload_n 2, 1, []), (47, .iastore, 1, []), (48, .aload_n 0, 1, []), (49, .getfield 28, 3, [12, 6]), (52, .iload_n 1, 1, []), (53, .iload_n 3, 1, []), (54, .iastore, 1, []), (55, .iconst 0, 1, []), (56, .istore 4, 2, []), (58, .iload 4, 2, []), (60, .bipush 100, 2, []), (62, .if_icmp .ge 22, 3, [84]), (65, .aload_n 0, 1, []), (66, .getfield 31, 3, [12, 7]), (69, .bipush 100, 2, []), (71, .iload_n 1, 1, []), (72, .imul, 1, []), (73, .iload 4, 2, []), (75, .iadd, 1, []), (76, .iconst 0, 1, []), (77, .iastore, 1, []), (78, .iinc 4 1, 3, []), (81, .goto (-23), 3, [58]), (84, .iconst 0, 1, []), (85, .ireturn, 1, [])]
def xm_71 : xM := (yX12_row, cX12_row, 5, 1, 0, (Option.some Jvm.ClassFile.FieldType.int), xk_71, [(58, [2, 3])])
def xk_72 : List xE := [(0, .aload_n 0, 1, []), (1, .iload_n 1, 1, []), (2, .iconst (-1), 1, []), (3, .invokevirtual 175, 3, [1, 29, 12, 2, 1, 0]), (6, .istore 4, 2, []), (8, .iload 4, 2, []), (10, .ifCond .eq 6, 3, [16]), (13, .iload 4, 2, []), (15, .ireturn, 1, []), (16, .iload_n 2, 1, []), (17, .i2l, 1, []), (18, .lconst 0, 1, []), (19, .aload_n 0, 1, []), (20, .getfield 28, 3, [12, 6]), (23, .iload_n 1, 1, []), (24, .iaload, 1, []), (25, .iconst 1, 1, []), (26, .isub, 1, []), (27, .i2l, 1, []), (28, .invokestatic 67, 3, [0, 1, 3, 1, 0]), (31, .ifCond .ne 6, 3, [37]), (34, .bipush (-13), 2, []), (36, .ireturn, 1, []), (37, .aload_n 0, 1, []), (38, .getfield 31, 3, [12, 7]), (41, .bipush 100, 2, []), (43, .iload_n 1, 1, []), (44, .imul, 1, []), (45, .iload_n 2, 1, []), (46, .iadd, 1, []), (47, .aload_n 0, 1, []), (48, .getfield 25, 3, [12, 5]), (51, .iload_n 1, 1, []), (52, .iaload, 1, []), (53, .ifCond .ne 8, 3, [61]), (56, .iload_n 3, 1, []), (57, .i2b, 1, []), (58, .goto 19, 3, [77]), (61, .aload_n 0, 1, []), (62, .getfield 25, 3, [12, 5]), (65, .iload_n 1, 1, []), (66, .iaload, 1, []), (67, .iconst 1, 1, []), (68, .if_icmp .ne 8, 3, [76]), (71, .iload_n 3, 1, []), (72, .i2s, 1, []), (73, .goto 4, 3, [77]), (76, .iload_n 3, 1, []), (77, .iastore, 1, []), (78, .iconst 0, 1, []), (79, .ireturn, 1, [])]
def xm_72 : xM := (yX12_put, cX12_put, 5, 1, 0, (Option.some Jvm.ClassFile.FieldType.int), xk_72, [])
def xk_73 : List xE := [(0, .aload_n 0, 1, []), (1, .iload_n 1, 1, []), (2, .invokestatic 172, 3, [0, 2, 1, 1, 0]), (5, .ifCond .ne 7, 3, [12]), (8, .iconst 1, 1, []), (9, .goto 36, 3, [45]), (12, .aload_n 0, 1, []), (13, .getfield 22, 3, [12, 4]), (16, .iload_n 1, 1, []), (17, .iaload, 1, []), (18, .iconst 2, 1, []), (19, .if_icmp .ne 21, 3, [40]), (22, .iload_n 2, 1, []), (23, .i2l, 1, []), (24, .lconst 0, 1, []), (25, .aload_n 0, 1, []), (26, .getfield 28, 3, [12, 6]), (29, .iload_n 1, 1, []), (30, .iaload, 1, []), (31, .iconst 1, 1, []), (32, .isub, 1, []), (33, .i2l, 1, []), (34, .invokestatic 67, 3, [0, 1, 3, 1, 0]), (37, .ifCond .ne 7, 3, [44]), (40, .iconst 2, 1, []), (41, .goto 4, 3, [45]), (44, .iconst 0, 1, []), (45, .putfield 61, 3, [12, 11]), (48, .aload_n 0, 1, []), (49, .getfield 61, 3, [12, 11]), (52, .ifCond .ne 18, 3, [70]), (55, .aload_n 0, 1, []), (56, .getfield 31, 3, [12, 7]), (59, .bipush 100, 2, []), (61, .iload_n 1, 1, []), (62, .imul, 1, []), (63, .iload_n 2, 1, []), (64, .iadd, 1, []), (65, .iaload, 1, []), (66, .i2l, 1, []), (67, .goto 4, 3, [71]), (70, .lconst 0, 1, []), (71, .lreturn, 1, [])]
def xm_73 : xM := (yX12_element, cX12_element, 3, 2, 0, (Option.some Jvm.ClassFile.FieldType.long), xk_73, [(45, [])])
def xk_74 : List xE := [(0, .iload_n 1, 1, []), (1, .invokestatic 172, 3, [0, 2, 1, 1, 0]), (4, .ifCond .eq 10, 3, [14]), (7, .iload_n 3, 1, []), (8, .invokestatic 172, 3, [0, 2, 1, 1, 0]), (11, .ifCond .ne 5, 3, [16]), (14, .iconst (-1), 1, []), (15, .ireturn, 1, []), (16, .aload_n 0, 1, []), (17, .getfield 22, 3, [12, 4]), (20, .iload_n 1, 1, []), (21, .iaload, 1, []), (22, .ifCond .eq 12, 3, [34]), (25, .aload_n 0, 1, []), (26, .getfield 22, 3, [12, 4]), (29, .iload_n 3, 1, []), (30, .iaload, 1, []), (31, .ifCond .ne 6, 3, [37]), (34, .bipush (-11), 2, []), (36, .ireturn, 1, []), (37, .aload_n 0, 1, []), (38, .getfield 22, 3, [12, 4]), (41, .iload_n 1, 1, []), (42, .iaload, 1, []), (43, .iconst 2, 1, []), (44, .if_icmp .ne 28, 3, [72]), (47, .aload_n 0, 1, []), (48, .getfield 22, 3, [12, 4]), (51, .iload_n 3, 1, []), (52, .iaload, 1, []), (53, .iconst 2, 1, []), (54, .if_icmp .ne 18, 3, [72]), (57, .aload_n 0, 1, []), (58, .getfield 25, 3, [12, 5]), (61, .iload_n 1, 1, []), (62, .iaload, 1, []), (63, .aload_n 0, 1, []), (64, .getfield 25, 3, [12, 5]), (67, .iload_n 3, 1, []), (68, .iaload, 1, []), (69, .if_icmp .eq 6, 3, [75]), (72, .bipush (-12), 2, []), (74, .ireturn, 1, []), (75, .iload 5, 2, []), (77, .ifCond .lt 39, 3, [116]), (80, .iload_n 2, 1, []), (81, .ifCond .lt 35, 3, [116]), (84, .iload 4, 2, []), (86, .ifCond .lt 30, 3, [116]), (89, .iload 5, 2, []), (91, .aload_n 0, 1, []), (92, .getfield 28, 3, [12, 6]), (95, .iload_n 1, 1, []), (96, .iaload, 1, []), (97, .iload_n 2, 1, []), (98, .isub, 1, []), (99, .if_icmp .gt 17, 3, [116]), (102, .iload 5, 2, []), (104, .aload_n 0, 1, []), (105, .getfield 28, 3, [12, 6]), (108, .iload_n 3, 1, []), (109, .iaload, 1, []), (110, .iload 4, 2, []), (112, .isub, 1, []), (113, .if_icmp .le 6, 3, [119]), (116, .bipush (-13), 2, []), (118, .ireturn, 1, []), (119, .iconst 0, 1, []), (120, .istore 6, 2, []), (122, .iload 6, 2, []), (124, .iload 5, 2, []), (126, .if_icmp .ge 58, 3, [184]), (129, .iload_n 2, 1, []), (130, .iload 4, 2, []), (132, .if_icmp .le 8, 3, [140]), (135, .iload 6, 2, []), (137, .goto 10, 3, [147]), (140, .iload 5, 2, []), (142, .iconst 1, 1, []), (143, .isub, 1, []), (144, .iload 6, 2, []), (146, .isub, 1, []), (147, .istore 7, 2, []), (149, .aload_n 0, 1, []), (150, .getfield 31, 3, [12, 7]), (153, .bipush 100, 2, []), (155, .iload_n 3, 1, []), (156, .imul, 1, []), (157, .iload 4, 2, []), (159, .iadd, 1, []), (160, .iload 7, 2, []), (162, .iadd, 1, []), (163, .aload_n 0, 1, []), (164, .getfield 31, 3, [12, 7]), (167, .bipush 100, 2, []), (169, .iload_n 1, 1, []), (170, .imul, 1, []), (171, .iload_n 2, 1, []), (172, .iadd, 1, []), (173, .iload 7, 2, []), (175, .iadd, 1, []), (176, .iaload, 1, []), (177, .iastore, 1, []), (178, .iinc 6 1, 3, []), (181, .goto (-59), 3, [122]), (184, .iload 5, 2, []), (186, .ireturn, 1, [])]
def xm_74 : xM := (yX12_copy, cX12_copy, 8, 1, 0, (Option.some Jvm.ClassFile.FieldType.int), xk_74, [(122, [7]), (147, [7])])
def xk_75 : List xE := [(0, .aload_n 0, 1, []), (1, .iload_n 1, 1, []), (2, .invokevirtual 185, 3, [1, 33, 12, 1, 1, 0]), (5, .istore_n 2, 1, []), (6, .iload_n 2, 1, []), (7, .ifCond .eq 7, 3, [14]), (10, .iload_n 2, 1, []), (11, .goto 18, 3, [29]), (14, .aload_n 0, 1, []), (15, .getfield 34, 3, [12, 8]), (18, .iload_n 1, 1, []), (19, .iaload, 1, []), (20, .aload_n 0, 1, []), (21, .getfield 37, 3, [12, 9]), (24, .iload_n 1, 1, []), (25, .iaload, 1, []), (26, .invokestatic 270, 3, [0, 69, 2, 1, 0]), (29, .ireturn, 1, [])]
def xm_75 : xM := (yX12_wage, cX12_wage, 3, 1, 0, (Option.some Jvm.ClassFile.FieldType.int), xk_75, [])
def xk_76 : List xE := [(0, .aload_n 0, 1, []), (1, .iload_n 1, 1, []), (2, .invokevirtual 185, 3, [1, 33, 12, 1, 1, 0]), (5, .istore_n 2, 1, []), (6, .iload_n 2, 1, []), (7, .ifCond .eq 5, 3, [12]), (10, .iload_n 2, 1, []), (11, .ireturn, 1, []), (12, .aload_n 0, 1, []), (13, .getfield 34, 3, [12, 8]), (16, .iload_n 1, 1, []), (17, .iaload, 1, []), (18, .istore_n 3, 1, []), (19, .aload_n 0, 1, []), (20, .getfield 37, 3, [12, 9]), (23, .iload_n 1, 1, []), (24, .iaload, 1, []), (25, .istore 4, 2, []), (27, .iload_n 3, 1, []), (28, .iconst 5, 1, []), (29, .if_icmp .eq 8, 3, [37]), (32, .iload 4, 2, []), (34, .ifCond .ne 8, 3, [42]), (37, .bipush (-15), 2, []), (39, .goto 37, 3, [76]), (42, .iload_n 3, 1, []), (43, .iconst 2, 1, []), (44, .if_icmp .ne 11, 3, [55]), (47, .bipush 100, 2, []), (49, .iload 4, 2, []), (51, .iadd, 1, []), (52, .goto 24, 3, [76]), (55, .iload_n 3, 1, []), (56, .bipush 6, 2, []), (58, .if_icmp .ne 16, 3, [74]), (61, .sipush 200, 3, []), (64, .iload_n 3, 1, []), (65, .iload 4, 2, []), (67, .invokestatic 270, 3, [0, 69, 2, 1, 0]), (70, .iadd, 1, []), (71, .goto 5, 3, [76]), (74, .iload 4, 2, []), (76, .ireturn, 1, [])]
def xm_76 : xM := (yX12_toss, cX12_toss, 5, 1, 0, (Option.some Jvm.ClassFile.FieldType.int), xk_76, [])
def xk_77 : List xE := [(0, .iload_n 0, 1, []), (1, .iload_n 0, 1, []), (2, .iconst 1, 1, []), (3, .iushr, 1, []), (4, .ldc_w 265, 3, [1431655765]), (7, .iand, 1, []), (8, .isub, 1, []), (9, .istore_n 0, 1, []), (10, .iload_n 0, 1, []), (11, .ldc_w 266, 3, [858993459]), (14, .iand, 1, []), (15, .iload_n 0, 1, []), (16, .iconst 2, 1, []), (17, .iushr, 1, []), (18, .ldc_w 266, 3, [858993459]), (21, .iand, 1, []), (22, .iadd, 1, []), (23, .istore_n 0, 1, []), (24, .iload_n 0, 1, []), (25, .iload_n 0, 1, []), (26, .iconst 4, 1, []), (27, .iushr, 1, []), (28, .iadd, 1, []), (29, .ldc_w 267, 3, [252645135]), (32, .iand, 1, []), (33, .istore_n 0, 1, []), (34, .iload_n 0, 1, []), (35, .iload_n 0, 1, []), (36, .bipush 8, 2, []), (38, .iushr, 1, []), (39, .iadd, 1, []), (40, .istore_n 0, 1, []), (41, .iload_n 0, 1, []), (42, .iload_n 0, 1, []), (43, .bipush 16, 2, []), (45, .iushr, 1, []), (46, .iadd, 1, []), (47, .istore_n 0, 1, []), (48, .iload_n 0, 1, []), (49, .bipush 63, 2, []), (51, .iand, 1, []), (52, .ireturn, 1, [])]
def xm_77 : xM := (yJ6_bitCount_0f7a4, cJ6_bitCount_0f7a4, 1, 1, 0, (Option.some Jvm.ClassFile.FieldType.int), xk_77, [])
def xk_78 : List xE := [(0, .lload_n 0, 1, []), (1, .lload_n 0, 1, []), (2, .iconst 1, 1, []), (3, .lushr, 1, []), (4, .ldc2_w 314, 3, [6148914691236517205]), (7, .land, 1, []), (8, .lsub, 1, []), (9, .lstore_n 0, 1, []), (10, .lload_n 0, 1, []), (11, .ldc2_w 316, 3, [3689348814741910323]), (14, .land, 1, []), (15, .lload_n 0, 1, []), (16, .iconst 2, 1, []), (17, .lushr, 1, []), (18, .ldc2_w 316, 3, [3689348814741910323]), (21, .land, 1, []), (22, .ladd, 1, []), (23, .lstore_n 0, 1, []), (24, .lload_n 0, 1, []), (25, .lload_n 0, 1, []), (26, .iconst 4, 1, []), (27, .lushr, 1, []), (28, .ladd, 1, []), (29, .ldc2_w 318, 3, [1085102592571150095]), (32, .land, 1, []), (33, .lstore_n 0, 1, []), (34, .lload_n 0, 1, []), (35, .lload_n 0, 1, []), (36, .bipush 8, 2, []), (38, .lushr, 1, []), (39, .ladd, 1, []), (40, .lstore_n 0, 1, []), (41, .lload_n 0, 1, []), (42, .lload_n 0, 1, []), (43, .bipush 16, 2, []), (45, .lushr, 1, []), (46, .ladd, 1, []), (47, .lstore_n 0, 1, []), (48, .lload_n 0, 1, []), (49, .lload_n 0, 1, []), (50, .bipush 32, 2, []), (52, .lushr, 1, []), (53, .ladd, 1, []), (54, .lstore_n 0, 1, []), (55, .lload_n 0, 1, []), (56, .l2i, 1, []), (57, .bipush 127, 2, []), (59, .iand, 1, []), (60, .ireturn, 1, [])]
def xm_78 : xM := (yJ13_bitCount_95d88, cJ13_bitCount_95d88, 2, 1, 0, (Option.some Jvm.ClassFile.FieldType.int), xk_78, [])
def xk_79 : List xE := [(0, .new 8, 3, [11]), (3, .dup, 1, []), (4, .invokespecial 17, 3, []), (7, .astore_n 1, 1, []), (8, .new 18, 3, [12]), (11, .dup, 1, []), (12, .invokespecial 20, 3, []), (15, .astore_n 2, 1, []), (16, .iconst 1, 1, []), (17, .newarray .long, 2, []), (19, .astore_n 3, 1, []), (20, .iconst 0, 1, []), (21, .istore 4, 2, []), (23, .iload 4, 2, []), (25, .aload_n 0, 1, []), (26, .arraylength, 1, []), (27, .bipush 6, 2, []), (29, .isub, 1, []), (30, .if_icmp .gt 1520, 3, [1550]), (33, .aload_n 0, 1, []), (34, .iload 4, 2, []), (36, .iaload, 1, []), (37, .bipush 31, 2, []), (39, .iand, 1, []), (40, .tableswitch 1504 0 29 #[136, 161, 198, 235, 260, 309, 382, 455, 516, 565, 626, 687, 748, 809, 870, 907, 968, 1005, 1042, 1079, 1104, 1117, 1130, 1155, 1216, 1265, 1314, 1381, 1454, 1479], 136, [1544, 0, 176, 1, 201, 2, 238, 3, 275, 4, 300, 5, 349, 6, 422, 7, 495, 8, 556, 9, 605, 10, 666, 11, 727, 12, 788, 13, 849, 14, 910, 15, 947, 16, 1008, 17, 1045, 18, 1082, 19, 1119, 20, 1144, 21, 1157, 22, 1170, 23, 1195, 24, 1256, 25, 1305, 26, 1354, 27, 1421, 28, 1494, 29, 1519]), (176, .aload_n 1, 1, []), (177, .aload_n 0, 1, []), (178, .iload 4, 2, []), (180, .iconst 1, 1, []), (181, .iadd, 1, []), (182, .iaload, 1, []), (183, .invokevirtual 21, 3, [1, 138, 11, 1, 1, 0]), (186, .aload_n 2, 1, []), (187, .aload_n 0, 1, []), (188, .iload 4, 2, []), (190, .iconst 1, 1, []), (191, .iadd, 1, []), (192, .iaload, 1, []), (193, .invokevirtual 25, 3, [1, 30, 12, 1, 1, 0]), (196, .if_icmp .eq 1348, 3, [1544]), (199, .iconst 0, 1, []), (200, .ireturn, 1, []), (201, .aload_n 1, 1, []), (202, .aload_n 0, 1, []), (203, .iload 4, 2, []), (205, .iconst 1, 1, []), (206, .iadd, 1, []), (207, .iaload, 1, []), (208, .aload_n 0, 1, []), (209, .iload 4, 2, []), (211, .iconst 2, 1, []), (212, .iadd, 1, []), (213, .iaload, 1, []), (214, .invokevirtual 26, 3, [1, 139, 11, 2, 1, 0]), (217, .aload_n 2, 1, []), (218, .aload_n 0, 1, []), (219, .iload 4, 2, []), (221, .iconst 1, 1, []), (222, .iadd, 1, []), (223, .iaload, 1, []), (224, .aload_n 0, 1, []), (225, .iload 4, 2, []), (227, .iconst 2, 1, []), (228, .iadd, 1, []), (229, .iaload, 1, []), (230, .invokevirtual 30, 3, [1, 31, 12, 2, 1, 0]), (233, .if_icmp .eq 1311, 3, [1544]), (236, .iconst 0, 1, []), (237, .ireturn, 1, []), (238, .aload_n 1, 1, []), (239, .aload_n 0, 1, []), (240, .iload 4, 2, []), (242, .iconst 1, 1, []), (243, .iadd, 1, []), (244, .iaload, 1, []), (245, .aload_n 0, 1, []), (246, .iload 4, 2, []), (248, .iconst 2, 1, []), (249, .iadd, 1, []), (250, .iaload, 1, []), (251, .invokevirtual 31, 3, [1, 140, 11, 2, 1, 0]), (254, .aload_n 2, 1, []), (255, .aload_n 0, 1, []), (256, .iload 4, 2, []), (258, .iconst 1, 1, []), (259, .iadd, 1, []), (260, .iaload, 1, []), (261, .aload_n 0, 1, []), (262, .iload 4, 2, []), (264, .iconst 2, 1, []), (265, .iadd, 1, []), (266, .iaload, 1, []), (267, .invokevirtual 34, 3, [1, 32, 12, 2, 1, 0]), (270, .if_icmp .eq 1274, 3, [1544]), (273, .iconst 0, 1, []), (274, .ireturn, 1, []), (275, .aload_n 1, 1, []), (276, .aload_n 0, 1, []), (277, .iload 4, 2, []), (279, .iconst 1, 1, []), (280, .iadd, 1, []), (281, .iaload, 1, []), (282, .invokevirtual 35, 3, [1, 141, 11, 1, 1, 0]), (285, .aload_n 2, 1, []), (286, .aload_n 0, 1, []), (287, .iload 4, 2, []), (289, .iconst 1, 1, []), (290, .iadd, 1, []), (291, .iaload, 1, []), (292, .invokevirtual 38, 3, [1, 34, 12, 1, 1, 0]), (295, .if_icmp .eq 1249, 3, [1544]), (298, .iconst 0, 1, []), (299, .ireturn, 1, []), (300, .aload_n 1, 1, []), (301, .aload_n 0, 1, []), (302, .iload 4, 2, []), (304, .iconst 1, 1, []), (305, .iadd, 1, []), (306, .iaload, 1, []), (307, .aload_n 0, 1, []), (308, .iload 4, 2, []), (310, .iconst 2, 1, []), (311, .iadd, 1, []), (312, .iaload, 1, []), (313, .aload_n 0, 1, []), (314, .iload 4, 2, []), (316, .iconst 3, 1, []), (317, .iadd, 1, []), (318, .iaload, 1, []), (319, .invokevirtual 39, 3, [1, 142, 11, 3, 1, 0]), (322, .aload_n 2, 1, []), (323, .aload_n 0, 1, []), (324, .iload 4, 2, []), (326, .iconst 1, 1, []), (327, .iadd, 1, []), (328, .iaload, 1, []), (329, .aload_n 0, 1, []), (330, .iload 4, 2, []), (332, .iconst 2, 1, []), (333, .iadd, 1, []), (334, .iaload, 1, []), (335, .aload_n 0, 1, []), (336, .iload 4, 2, []), (338, .iconst 3, 1, []), (339, .iadd, 1, []), (340, .iaload, 1, []), (341, .invokevirtual 43, 3, [1, 35, 12, 3, 1, 0]), (344, .if_icmp .eq 1200, 3, [1544]), (347, .iconst 0, 1, []), (348, .ireturn, 1, []), (349, .aload_n 1, 1, []), (350, .aload_n 0, 1, []), (351, .iload 4, 2, []), (353, .iconst 1, 1, []), (354, .iadd, 1, []), (355, .iaload, 1, []), (356, .aload_n 0, 1, []), (357, .iload 4, 2, []), (359, .iconst 2, 1, []), (360, .iadd, 1, []), (361, .iaload, 1, []), (362, .aload_n 0, 1, []), (363, .iload 4, 2, []), (365, .iconst 3, 1, []), (366, .iadd, 1, []), (367, .iaload, 1, []), (368, .aload_n 0, 1, []), (369, .iload 4, 2, []), (371, .iconst 4, 1, []), (372, .iadd, 1, []), (373, .iaload, 1, []), (374, .aload_n 0, 1, []), (375, .iload 4, 2, []), (377, .iconst 5, 1, []), (378, .iadd, 1, []), (379, .iaload, 1, []), (380, .invokevirtual 44, 3, [1, 143, 11, 5, 1, 0]), (383, .aload_n 2, 1, []), (384, .aload_n 0, 1, []), (385, .iload 4, 2, []), (387, .iconst 1, 1, []), (388, .iadd, 1, []), (389, .iaload, 1, []), (390, .aload_n 0, 1, []), (391, .iload 4, 2, []), (393, .iconst 2, 1, []), (394, .iadd, 1, []), (395, .iaload, 1, []), (396, .aload_n 0, 1, []), (397, .iload 4, 2, []), (399, .iconst 3, 1, []), (400, .iadd, 1, []), (401, .iaload, 1, []), (402, .aload_n 0, 1, []), (403, .iload 4, 2, []), (405, .iconst 4, 1, []), (406, .iadd, 1, []), (407, .iaload, 1, []), (408, .aload_n 0, 1, []), (409, .iload 4, 2, []), (411, .iconst 5, 1, []), (412, .iadd, 1, []), (413, .iaload, 1, []), (414, .invokevirtual 48, 3, [1, 37, 12, 5, 1, 0]), (417, .if_icmp .eq 1127, 3, [1544]), (420, .iconst 0, 1, []), (421, .ireturn, 1, []), (422, .aload_n 1, 1, []), (423, .aload_n 0, 1, []), (424, .iload 4, 2, []), (426, .iconst 1, 1, []), (427, .iadd, 1, []), (428, .iaload, 1, []), (429, .aload_n 0, 1, []), (430, .iload 4, 2, []), (432, .iconst 2, 1, []), (433, .iadd, 1, []), (434, .iaload, 1, []), (435, .aload_n 0, 1, []), (436, .iload 4, 2, []), (438, .iconst 3, 1, []), (439, .iadd, 1, []), (440, .iaload, 1, []), (441, .aload_n 0, 1, []), (442, .iload 4, 2, []), (444, .iconst 4, 1, []), (445, .iadd, 1, []), (446, .iaload, 1, []), (447, .aload_n 0, 1, []), (448, .iload 4, 2, []), (450, .iconst 5, 1, []), (451, .iadd, 1, []), (452, .iaload, 1, []), (453, .invokevirtual 49, 3, [1, 144, 11, 5, 1, 0]), (456, .aload_n 2, 1, []), (457, .aload_n 0, 1, []), (458, .iload 4, 2, []), (460, .iconst 1, 1, []), (461, .iadd, 1, []), (462, .iaload, 1, []), (463, .aload_n 0, 1, []), (464, .iload 4, 2, []), (466, .iconst 2, 1, []), (467, .iadd, 1, []), (468, .iaload, 1, []), (469, .aload_n 0, 1, []), (470, .iload 4, 2, []), (472, .iconst 3, 1, []), (473, .iadd, 1, []), (474, .iaload, 1, []), (475, .aload_n 0, 1, []), (476, .iload 4, 2, []), (478, .iconst 4, 1, []), (479, .iadd, 1, []), (480, .iaload, 1, []), (481, .aload_n 0, 1, []), (482, .iload 4, 2, []), (484, .iconst 5, 1, []), (485, .iadd, 1, []), (486, .iaload, 1, []), (487, .invokevirtual 52, 3, [1, 38, 12, 5, 1, 0]), (490, .if_icmp .eq 1054, 3, [1544]), (493, .iconst 0, 1, []), (494, .ireturn, 1, []), (495, .aload_n 1, 1, []), (496, .aload_n 0, 1, []), (497, .iload 4, 2, []), (499, .iconst 1, 1, []), (500, .iadd, 1, []), (501, .iaload, 1, []), (502, .aload_n 0, 1, []), (503, .iload 4, 2, []), (505, .iconst 2, 1, []), (506, .iadd, 1, []), (507, .iaload, 1, []), (508, .aload_n 0, 1, []), (509, .iload 4, 2, []), (511, .iconst 3, 1, []), (512, .iadd, 1, []), (513, .iaload, 1, []), (514, .aload_n 0, 1, []), (515, .iload 4, 2, []), (517, .iconst 4, 1, []), (518, .iadd, 1, []), (519, .iaload, 1, []), (520, .invokevirtual 53, 3, [1, 145, 11, 4, 1, 0]), (523, .aload_n 2, 1, []), (524, .aload_n 0, 1, []), (525, .iload 4, 2, []), (527, .iconst 1, 1, []), (528, .iadd, 1, []), (529, .iaload, 1, []), (530, .aload_n 0, 1, []), (531, .iload 4, 2, []), (533, .iconst 2, 1, []), (534, .iadd, 1, []), (535, .iaload, 1, []), (536, .aload_n 0, 1, []), (537, .iload 4, 2, []), (539, .iconst 3, 1, []), (540, .iadd, 1, []), (541, .iaload, 1, []), (542, .aload_n 0, 1, []), (543, .iload 4, 2, []), (545, .iconst 4, 1, []), (546, .iadd, 1, []), (547, .iaload, 1, []), (548, .invokevirtual 57, 3, [1, 39, 12, 4, 1, 0]), (551, .if_icmp .eq 993, 3, [1544]), (554, .iconst 0, 1, []), (555, .ireturn, 1, []), (556, .aload_n 1, 1, []), (557, .aload_n 0, 1, []), (558, .iload 4, 2, []), (560, .iconst 1, 1, []), (561, .iadd, 1, []), (562, .iaload, 1, []), (563, .aload_n 0, 1, []), (564, .iload 4, 2, []), (566, .iconst 2, 1, []), (567, .iadd, 1, []), (568, .iaload, 1, []), (569, .aload_n 0, 1, []), (570, .iload 4, 2, []), (572, .iconst 3, 1, []), (573, .iadd, 1, []), (574, .iaload, 1, []), (575, .invokevirtual 58, 3, [1, 146, 11, 3, 1, 0]), (578, .aload_n 2, 1, []), (579, .aload_n 0, 1, []), (580, .iload 4, 2, []), (582, .iconst 1, 1, []), (583, .iadd, 1, []), (584, .iaload, 1, []), (585, .aload_n 0, 1, []), (586, .iload 4, 2, []), (588, .iconst 2, 1, []), (589, .iadd, 1, []), (590, .iaload, 1, []), (591, .aload_n 0, 1, []), (592, .iload 4, 2, []), (594, .iconst 3, 1, []), (595, .iadd, 1, []), (596, .iaload, 1, []), (597, .invokevirtual 61, 3, [1, 42, 12, 3, 1, 0]), (600, .if_icmp .eq 944, 3, [1544]), (603, .iconst 0, 1, []), (604, .ireturn, 1, []), (605, .aload_n 1, 1, []), (606, .aload_n 0, 1, []), (607, .iload 4, 2, []), (609, .iconst 1, 1, []), (610, .iadd, 1, []), (611, .iaload, 1, []), (612, .aload_n 0, 1, []), (613, .iload 4, 2, []), (615, .iconst 2, 1, []), (616, .iadd, 1, []), (617, .iaload, 1, []), (618, .aload_n 0, 1, []), (619, .iload 4, 2, []), (621, .iconst 3, 1, []), (622, .iadd, 1, []), (623, .iaload, 1, []), (624, .aload_n 0, 1, []), (625, .iload 4, 2, []), (627, .iconst 4, 1, []), (628, .iadd, 1, []), (629, .iaload, 1, []), (630, .invokevirtual 62, 3, [1, 147, 11, 4, 1, 0]), (633, .aload_n 2, 1, []), (634, .aload_n 0, 1, []), (635, .iload 4, 2, []), (637, .iconst 1, 1, []), (638, .iadd, 1, []), (639, .iaload, 1, []), (640, .aload_n 0, 1, []), (641, .iload 4, 2, []), (643, .iconst 2, 1, []), (644, .iadd, 1, []), (645, .iaload, 1, []), (646, .aload_n 0, 1, []), (647, .iload 4, 2, []), (649, .iconst 3, 1, []), (650, .iadd, 1, []), (651, .iaload, 1, []), (652, .aload_n 0, 1, []), (653, .iload 4, 2, []), (655, .iconst 4, 1, []), (656, .iadd, 1, []), (657, .iaload, 1, []), (658, .invokevirtual 65, 3, [1, 45, 12, 4, 1, 0]), (661, .if_icmp .eq 883, 3, [1544]), (664, .iconst 0, 1, []), (665, .ireturn, 1, []), (666, .aload_n 1, 1, []), (667, .aload_n 0, 1, []), (668, .iload 4, 2, []), (670, .iconst 1, 1, []), (671, .iadd, 1, []), (672, .iaload, 1, []), (673, .aload_n 0, 1, []), (674, .iload 4, 2, []), (676, .iconst 2, 1, []), (677, .iadd, 1, []), (678, .iaload, 1, []), (679, .aload_n 0, 1, []), (680, .iload 4, 2, []), (682, .iconst 3, 1, []), (683, .iadd, 1, []), (684, .iaload, 1, []), (685, .aload_n 0, 1, []), (686, .iload 4, 2, []), (688, .iconst 4, 1, []), (689, .iadd, 1, []), (690, .iaload, 1, []), (691, .invokevirtual 66, 3, [1, 148, 11, 4, 1, 0]), (694, .aload_n 2, 1, []), (695, .aload_n 0, 1, []), (696, .iload 4, 2, []), (698, .iconst 1, 1, []), (699, .iadd, 1, []), (700, .iaload, 1, []), (701, .aload_n 0, 1, []), (702, .iload 4, 2, []), (704, .iconst 2, 1, []), (705, .iadd, 1, []), (706, .iaload, 1, []), (707, .aload_n 0, 1, []), (708, .iload 4, 2, []), (710, .iconst 3, 1, []), (711, .iadd, 1, []), (712, .iaload, 1, []), (713, .aload_n 0, 1, []), (714, .iload 4, 2, []), (716, .iconst 4, 1, []), (717, .iadd, 1, []), (718, .iaload, 1, []), (719, .invokevirtual 69, 3, [1, 47, 12, 4, 1, 0]), (722, .if_icmp .eq 822, 3, [1544]), (725, .iconst 0, 1, []), (726, .ireturn, 1, []), (727, .aload_n 1, 1, []), (728, .aload_n 0, 1, []), (729, .iload 4, 2, []), (731, .iconst 1, 1, []), (732, .iadd, 1, []), (733, .iaload, 1, []), (734, .aload_n 0, 1, []), (735, .iload 4, 2, []), (737, .iconst 2, 1, []), (738, .iadd, 1, []), (739, .iaload, 1, []), (740, .aload_n 0, 1, []), (741, .iload 4, 2, []), (743, .iconst 3, 1, []), (744, .iadd, 1, []), (745, .iaload, 1, []), (746, .aload_n 0, 1, []), (747, .iload 4, 2, []), (749, .iconst 4, 1, []), (750, .iadd, 1, []), (751, .iaload, 1, []), (752, .invokevirtual 70, 3, [1, 149, 11, 4, 1, 0]), (755, .aload_n 2, 1, []), (756, .aload_n 0, 1, []), (757, .iload 4, 2, []), (759, .iconst 1, 1, []), (760, .iadd, 1, []), (761, .iaload, 1, []), (762, .aload_n 0, 1, []), (763, .iload 4, 2, []), (765, .iconst 2, 1, []), (766, .iadd, 1, []), (767, .iaload, 1, []), (768, .aload_n 0, 1, []), (769, .iload 4, 2, []), (771, .iconst 3, 1, []), (772, .iadd, 1, []), (773, .iaload, 1, []), (774, .aload_n 0, 1, []), (775, .iload 4, 2, []), (777, .iconst 4, 1, []), (778, .iadd, 1, []), (779, .iaload, 1, []), (780, .invokevirtual 73, 3, [1, 48, 12, 4, 1, 0]), (783, .if_icmp .eq 761, 3, [1544]), (786, .iconst 0, 1, []), (787, .ireturn, 1, []), (788, .aload_n 1, 1, []), (789, .aload_n 0, 1, []), (790, .iload 4, 2, []), (792, .iconst 1, 1, []), (793, .iadd, 1, []), (794, .iaload, 1, []), (795, .aload_n 0, 1, []), (796, .iload 4, 2, []), (798, .iconst 2, 1, []), (799, .iadd, 1, []), (800, .iaload, 1, []), (801, .aload_n 0, 1, []), (802, .iload 4, 2, []), (804, .iconst 3, 1, []), (805, .iadd, 1, []), (806, .iaload, 1, []), (807, .aload_n 0, 1, []), (808, .iload 4, 2, []), (810, .iconst 4, 1, []), (811, .iadd, 1, []), (812, .iaload, 1, []), (813, .invokevirtual 74, 3, [1, 150, 11, 4, 1, 0]), (816, .aload_n 2, 1, []), (817, .aload_n 0, 1, []), (818, .iload 4, 2, []), (820, .iconst 1, 1, []), (821, .iadd, 1, []), (822, .iaload, 1, []), (823, .aload_n 0, 1, []), (824, .iload 4, 2, []), (826, .iconst 2, 1, []), (827, .iadd, 1, []), (828, .iaload, 1, []), (829, .aload_n 0, 1, []), (830, .iload 4, 2, []), (832, .iconst 3, 1, []), (833, .iadd, 1, []), (834, .iaload, 1, []), (835, .aload_n 0, 1, []), (836, .iload 4, 2, []), (838, .iconst 4, 1, []), (839, .iadd, 1, []), (840, .iaload, 1, []), (841, .invokevirtual 77, 3, [1, 49, 12, 4, 1, 0]), (844, .if_icmp .eq 700, 3, [1544]), (847, .iconst 0, 1, []), (848, .ireturn, 1, []), (849, .aload_n 1, 1, []), (850, .aload_n 0, 1, []), (851, .iload 4, 2, []), (853, .iconst 1, 1, []), (854, .iadd, 1, []), (855, .iaload, 1, []), (856, .aload_n 0, 1, []), (857, .iload 4, 2, []), (859, .iconst 2, 1, []), (860, .iadd, 1, []), (861, .iaload, 1, []), (862, .aload_n 0, 1, []), (863, .iload 4, 2, []), (865, .iconst 3, 1, []), (866, .iadd, 1, []), (867, .iaload, 1, []), (868, .aload_n 0, 1, []), (869, .iload 4, 2, []), (871, .iconst 4, 1, []), (872, .iadd, 1, []), (873, .iaload, 1, []), (874, .invokevirtual 78, 3, [1, 151, 11, 4, 1, 0]), (877, .aload_n 2, 1, []), (878, .aload_n 0, 1, []), (879, .iload 4, 2, []), (881, .iconst 1, 1, []), (882, .iadd, 1, []), (883, .iaload, 1, []), (884, .aload_n 0, 1, []), (885, .iload 4, 2, []), (887, .iconst 2, 1, []), (888, .iadd, 1, []), (889, .iaload, 1, []), (890, .aload_n 0, 1, []), (891, .iload 4, 2, []), (893, .iconst 3, 1, []), (894, .iadd, 1, []), (895, .iaload, 1, []), (896, .aload_n 0, 1, []), (897, .iload 4, 2, []), (899, .iconst 4, 1, []), (900, .iadd, 1, []), (901, .iaload, 1, []), (902, .invokevirtual 81, 3, [1, 50, 12, 4, 1, 0]), (905, .if_icmp .eq 639, 3, [1544]), (908, .iconst 0, 1, []), (909, .ireturn, 1, []), (910, .aload_n 1, 1, []), (911, .aload_n 0, 1, []), (912, .iload 4, 2, []), (914, .iconst 1, 1, []), (915, .iadd, 1, []), (916, .iaload, 1, []), (917, .aload_n 0, 1, []), (918, .iload 4, 2, []), (920, .iconst 2, 1, []), (921, .iadd, 1, []), (922, .iaload, 1, []), (923, .invokevirtual 82, 3, [1, 152, 11, 2, 1, 0]), (926, .aload_n 2, 1, []), (927, .aload_n 0, 1, []), (928, .iload 4, 2, []), (930, .iconst 1, 1, []), (931, .iadd, 1, []), (932, .iaload, 1, []), (933, .aload_n 0, 1, []), (934, .iload 4, 2, []), (936, .iconst 2, 1, []), (937, .iadd, 1, []), (938, .iaload, 1, []), (939, .invokevirtual 85, 3, [1, 52, 12, 2, 1, 0]), (942, .if_icmp .eq 602, 3, [1544]), (945, .iconst 0, 1, []), (946, .ireturn, 1, []), (947, .aload_n 1, 1, []), (948, .aload_n 0, 1, []), (949, .iload 4, 2, []), (951, .iconst 1, 1, []), (952, .iadd, 1, []), (953, .iaload, 1, []), (954, .aload_n 0, 1, []), (955, .iload 4, 2, []), (957, .iconst 2, 1, []), (958, .iadd, 1, []), (959, .iaload, 1, []), (960, .aload_n 0, 1, []), (961, .iload 4, 2, []), (963, .iconst 3, 1, []), (964, .iadd, 1, []), (965, .iaload, 1, []), (966, .aload_n 0, 1, []), (967, .iload 4, 2, []), (969, .iconst 4, 1, []), (970, .iadd, 1, []), (971, .iaload, 1, []), (972, .invokevirtual 86, 3, [1, 153, 11, 4, 1, 0]), (975, .aload_n 2, 1, []), (976, .aload_n 0, 1, []), (977, .iload 4, 2, []), (979, .iconst 1, 1, []), (980, .iadd, 1, []), (981, .iaload, 1, []), (982, .aload_n 0, 1, []), (983, .iload 4, 2, []), (985, .iconst 2, 1, []), (986, .iadd, 1, []), (987, .iaload, 1, []), (988, .aload_n 0, 1, []), (989, .iload 4, 2, []), (991, .iconst 3, 1, []), (992, .iadd, 1, []), (993, .iaload, 1, []), (994, .aload_n 0, 1, []), (995, .iload 4, 2, []), (997, .iconst 4, 1, []), (998, .iadd, 1, []), (999, .iaload, 1, []), (1000, .invokevirtual 89, 3, [1, 53, 12, 4, 1, 0]), (1003, .if_icmp .eq 541, 3, [1544]), (1006, .iconst 0, 1, []), (1007, .ireturn, 1, []), (1008, .aload_n 1, 1, []), (1009, .aload_n 0, 1, []), (1010, .iload 4, 2, []), (1012, .iconst 1, 1, []), (1013, .iadd, 1, []), (1014, .iaload, 1, []), (1015, .aload_n 0, 1, []), (1016, .iload 4, 2, []), (1018, .iconst 2, 1, []), (1019, .iadd, 1, []), (1020, .iaload, 1, []), (1021, .invokevirtual 90, 3, [1, 154, 11, 2, 1, 0]), (1024, .aload_n 2, 1, []), (1025, .aload_n 0, 1, []), (1026, .iload 4, 2, []), (1028, .iconst 1, 1, []), (1029, .iadd, 1, []), (1030, .iaload, 1, []), (1031, .aload_n 0, 1, []), (1032, .iload 4, 2, []), (1034, .iconst 2, 1, []), (1035, .iadd, 1, []), (1036, .iaload, 1, []), (1037, .invokevirtual 93, 3, [1, 58, 12, 2, 1, 0]), (1040, .if_icmp .eq 504, 3, [1544]), (1043, .iconst 0, 1, []), (1044, .ireturn, 1, []), (1045, .aload_n 1, 1, []), (1046, .aload_n 0, 1, []), (1047, .iload 4, 2, []), (1049, .iconst 1, 1, []), (1050, .iadd, 1, []), (1051, .iaload, 1, []), (1052, .aload_n 0, 1, []), (1053, .iload 4, 2, []), (1055, .iconst 2, 1, []), (1056, .iadd, 1, []), (1057, .iaload, 1, []), (1058, .invokevirtual 94, 3, [1, 155, 11, 2, 1, 0]), (1061, .aload_n 2, 1, []), (1062, .aload_n 0, 1, []), (1063, .iload 4, 2, []), (1065, .iconst 1, 1, []), (1066, .iadd, 1, []), (1067, .iaload, 1, []), (1068, .aload_n 0, 1, []), (1069, .iload 4, 2, []), (1071, .iconst 2, 1, []), (1072, .iadd, 1, []), (1073, .iaload, 1, []), (1074, .invokevirtual 97, 3, [1, 61, 12, 2, 1, 0]), (1077, .if_icmp .eq 467, 3, [1544]), (1080, .iconst 0, 1, []), (1081, .ireturn, 1, []), (1082, .aload_n 1, 1, []), (1083, .aload_n 0, 1, []), (1084, .iload 4, 2, []), (1086, .iconst 1, 1, []), (1087, .iadd, 1, []), (1088, .iaload, 1, []), (1089, .aload_n 0, 1, []), (1090, .iload 4, 2, []), (1092, .iconst 2, 1, []), (1093, .iadd, 1, []), (1094, .iaload, 1, []), (1095, .invokevirtual 98, 3, [1, 156, 11, 2, 1, 0]), (1098, .aload_n 2, 1, []), (1099, .aload_n 0, 1, []), (1100, .iload 4, 2, []), (1102, .iconst 1, 1, []), (1103, .iadd, 1, []), (1104, .iaload, 1, []), (1105, .aload_n 0, 1, []), (1106, .iload 4, 2, []), (1108, .iconst 2, 1, []), (1109, .iadd, 1, []), (1110, .iaload, 1, []), (1111, .invokevirtual 101, 3, [1, 63, 12, 2, 1, 0]), (1114, .if_icmp .eq 430, 3, [1544]), (1117, .iconst 0, 1, []), (1118, .ireturn, 1, []), (1119, .aload_n 1, 1, []), (1120, .aload_n 0, 1, []), (1121, .iload 4, 2, []), (1123, .iconst 1, 1, []), (1124, .iadd, 1, []), (1125, .iaload, 1, []), (1126, .invokevirtual 102, 3, [1, 157, 11, 1, 1, 0]), (1129, .aload_n 2, 1, []), (1130, .aload_n 0, 1, []), (1131, .iload 4, 2, []), (1133, .iconst 1, 1, []), (1134, .iadd, 1, []), (1135, .iaload, 1, []), (1136, .invokevirtual 105, 3, [1, 65, 12, 1, 1, 0]), (1139, .if_icmp .eq 405, 3, [1544]), (1142, .iconst 0, 1, []), (1143, .ireturn, 1, []), (1144, .aload_n 1, 1, []), (1145, .invokevirtual 106, 3, [1, 158, 11, 0, 1, 0]), (1148, .aload_n 2, 1, []), (1149, .invokevirtual 110, 3, [1, 66, 12, 0, 1, 0]), (1152, .if_icmp .eq 392, 3, [1544]), (1155, .iconst 0, 1, []), (1156, .ireturn, 1, []), (1157, .aload_n 1, 1, []), (1158, .invokevirtual 111, 3, [1, 159, 11, 0, 1, 0]), (1161, .aload_n 2, 1, []), (1162, .invokevirtual 114, 3, [1, 67, 12, 0, 1, 0]), (1165, .if_icmp .eq 379, 3, [1544]), (1168, .iconst 0, 1, []), (1169, .ireturn, 1, []), (1170, .aload_n 1, 1, []), (1171, .aload_n 0, 1, []), (1172, .iload 4, 2, []), (1174, .iconst 1, 1, []), (1175, .iadd, 1, []), (1176, .iaload, 1, []), (1177, .invokevirtual 115, 3, [1, 160, 11, 1, 1, 0]), (1180, .aload_n 2, 1, []), (1181, .aload_n 0, 1, []), (1182, .iload 4, 2, []), (1184, .iconst 1, 1, []), (1185, .iadd, 1, []), (1186, .iaload, 1, []), (1187, .invokevirtual 118, 3, [1, 68, 12, 1, 1, 0]), (1190, .if_icmp .eq 354, 3, [1544]), (1193, .iconst 0, 1, []), (1194, .ireturn, 1, []), (1195, .aload_n 1, 1, []), (1196, .aload_n 0, 1, []), (1197, .iload 4, 2, []), (1199, .iconst 1, 1, []), (1200, .iadd, 1, []), (1201, .iaload, 1, []), (1202, .aload_n 0, 1, []), (1203, .iload 4, 2, []), (1205, .iconst 2, 1, []), (1206, .iadd, 1, []), (1207, .iaload, 1, []), (1208, .aload_n 0, 1, []), (1209, .iload 4, 2, []), (1211, .iconst 3, 1, []), (1212, .iadd, 1, []), (1213, .iaload, 1, []), (1214, .aload_n 0, 1, []), (1215, .iload 4, 2, []), (1217, .iconst 4, 1, []), (1218, .iadd, 1, []), (1219, .iaload, 1, []), (1220, .invokevirtual 119, 3, [1, 161, 11, 4, 1, 0]), (1223, .aload_n 2, 1, []), (1224, .aload_n 0, 1, []), (1225, .iload 4, 2, []), (1227, .iconst 1, 1, []), (1228, .iadd, 1, []), (1229, .iaload, 1, []), (1230, .aload_n 0, 1, []), (1231, .iload 4, 2, []), (1233, .iconst 2, 1, []), (1234, .iadd, 1, []), (1235, .iaload, 1, []), (1236, .aload_n 0, 1, []), (1237, .iload 4, 2, []), (1239, .iconst 3, 1, []), (1240, .iadd, 1, []), (1241, .iaload, 1, []), (1242, .aload_n 0, 1, []), (1243, .iload 4, 2, []), (1245, .iconst 4, 1, []), (1246, .iadd, 1, []), (1247, .iaload, 1, []), (1248, .invokevirtual 122, 3, [1, 70, 12, 4, 1, 0]), (1251, .if_icmp .eq 293, 3, [1544]), (1254, .iconst 0, 1, []), (1255, .ireturn, 1, []), (1256, .aload_n 1, 1, []), (1257, .aload_n 0, 1, []), (1258, .iload 4, 2, []), (1260, .iconst 1, 1, []), (1261, .iadd, 1, []), (1262, .iaload, 1, []), (1263, .aload_n 0, 1, []), (1264, .iload 4, 2, []), (1266, .iconst 2, 1, []), (1267, .iadd, 1, []), (1268, .iaload, 1, []), (1269, .aload_n 0, 1, []), (1270, .iload 4, 2, []), (1272, .iconst 3, 1, []), (1273, .iadd, 1, []), (1274, .iaload, 1, []), (1275, .invokevirtual 123, 3, [1, 162, 11, 3, 1, 0]), (1278, .aload_n 2, 1, []), (1279, .aload_n 0, 1, []), (1280, .iload 4, 2, []), (1282, .iconst 1, 1, []), (1283, .iadd, 1, []), (1284, .iaload, 1, []), (1285, .aload_n 0, 1, []), (1286, .iload 4, 2, []), (1288, .iconst 2, 1, []), (1289, .iadd, 1, []), (1290, .iaload, 1, []), (1291, .aload_n 0, 1, []), (1292, .iload 4, 2, []), (1294, .iconst 3, 1, []), (1295, .iadd, 1, []), (1296, .iaload, 1, []), (1297, .invokevirtual 126, 3, [1, 71, 12, 3, 1, 0]), (1300, .if_icmp .eq 244, 3, [1544]), (1303, .iconst 0, 1, []), (1304, .ireturn, 1, []), (1305, .aload_n 1, 1, []), (1306, .aload_n 0, 1, []), (1307, .iload 4, 2, []), (1309, .iconst 1, 1, []), (1310, .iadd, 1, []), (1311, .iaload, 1, []), (1312, .aload_n 0, 1, []), (1313, .iload 4, 2, []), (1315, .iconst 2, 1, []), (1316, .iadd, 1, []), (1317, .iaload, 1, []), (1318, .aload_n 0, 1, []), (1319, .iload 4, 2, []), (1321, .iconst 3, 1, []), (1322, .iadd, 1, []), (1323, .iaload, 1, []), (1324, .invokevirtual 127, 3, [1, 163, 11, 3, 1, 0]), (1327, .aload_n 2, 1, []), (1328, .aload_n 0, 1, []), (1329, .iload 4, 2, []), (1331, .iconst 1, 1, []), (1332, .iadd, 1, []), (1333, .iaload, 1, []), (1334, .aload_n 0, 1, []), (1335, .iload 4, 2, []), (1337, .iconst 2, 1, []), (1338, .iadd, 1, []), (1339, .iaload, 1, []), (1340, .aload_n 0, 1, []), (1341, .iload 4, 2, []), (1343, .iconst 3, 1, []), (1344, .iadd, 1, []), (1345, .iaload, 1, []), (1346, .invokevirtual 130, 3, [1, 72, 12, 3, 1, 0]), (1349, .if_icmp .eq 195, 3, [1544]), (1352, .iconst 0, 1, []), (1353, .ireturn, 1, []), (1354, .aload_n 1, 1, []), (1355, .aload_n 0, 1, []), (1356, .iload 4, 2, []), (1358, .iconst 1, 1, []), (1359, .iadd, 1, []), (1360, .iaload, 1, []), (1361, .aload_n 0, 1, []), (1362, .iload 4, 2, []), (1364, .iconst 2, 1, []), (1365, .iadd, 1, []), (1366, .iaload, 1, []), (1367, .aload_n 3, 1, []), (1368, .invokestatic 131, 3, [7]), (1371, .istore 5, 2, []), (1373, .aload_n 2, 1, []), (1374, .aload_n 0, 1, []), (1375, .iload 4, 2, []), (1377, .iconst 1, 1, []), (1378, .iadd, 1, []), (1379, .iaload, 1, []), (1380, .aload_n 0, 1, []), (1381, .iload 4, 2, []), (1383, .iconst 2, 1, []), (1384, .iadd, 1, []), (1385, .iaload, 1, []), (1386, .invokevirtual 136, 3, [1, 73, 12, 2, 2, 0]), (1389, .lstore 6, 2, []), (1391, .aload_n 2, 1, []), (1392, .invokevirtual 137, 3, [1, 0, 12, 0, 1, 0]), (1395, .iload 5, 2, []), (1397, .if_icmp .eq 5, 3, [1402]), (1400, .iconst 0, 1, []), (1401, .ireturn, 1, []), (1402, .iload 5, 2, []), (1404, .ifCond .ne 14, 3, [1418]), (1407, .aload_n 3, 1, []), (1408, .iconst 0, 1, []), (1409, .laload, 1, []), (1410, .lload 6, 2, []), (1412, .lcmp, 1, []), (1413, .ifCond .eq 5, 3, [1418]), (1416, .iconst 0, 1, []), (1417, .ireturn, 1, []), (1418, .goto 126, 3, [1544]), (1421, .aload_n 1, 1, []), (1422, .aload_n 0, 1, []), (1423, .iload 4, 2, []), (1425, .iconst 1, 1, []), (1426, .iadd, 1, []), (1427, .iaload, 1, []), (1428, .aload_n 0, 1, []), (1429, .iload 4, 2, []), (1431, .iconst 2, 1, []), (1432, .iadd, 1, []), (1433, .iaload, 1, []), (1434, .aload_n 0, 1, []), (1435, .iload 4, 2, []), (1437, .iconst 3, 1, []), (1438, .iadd, 1, []), (1439, .iaload, 1, []), (1440, .aload_n 0, 1, []), (1441, .iload 4, 2, []), (1443, .iconst 4, 1, []), (1444, .iadd, 1, []), (1445, .iaload, 1, []), (1446, .aload_n 0, 1, []), (1447, .iload 4, 2, []), (1449, .iconst 5, 1, []), (1450, .iadd, 1, []), (1451, .iaload, 1, []), (1452, .invokevirtual 140, 3, [1, 164, 11, 5, 1, 0]), (1455, .aload_n 2, 1, []), (1456, .aload_n 0, 1, []), (1457, .iload 4, 2, []), (1459, .iconst 1, 1, []), (1460, .iadd, 1, []), (1461, .iaload, 1, []), (1462, .aload_n 0, 1, []), (1463, .iload 4, 2, []), (1465, .iconst 2, 1, []), (1466, .iadd, 1, []), (1467, .iaload, 1, []), (1468, .aload_n 0, 1, []), (1469, .iload 4, 2, []), (1471, .iconst 3, 1, []), (1472, .iadd, 1, []), (1473, .iaload, 1, []), (1474, .aload_n 0, 1, []), (1475, .iload 4, 2, []), (1477, .iconst 4, 1, []), (1478, .iadd, 1, []), (1479, .iaload, 1, []), (1480, .aload_n 0, 1, []), (1481, .iload 4, 2, []), (1483, .iconst 5, 1, []), (1484, .iadd, 1, []), (1485, .iaload, 1, []), (1486, .invokevirtual 143, 3, [1, 74, 12, 5, 1, 0]), (1489, .if_icmp .eq 55, 3, [1544]), (1492, .iconst 0, 1, []), (1493, .ireturn, 1, []), (1494, .aload_n 1, 1, []), (1495, .aload_n 0, 1, []), (1496, .iload 4, 2, []), (1498, .iconst 1, 1, []), (1499, .iadd, 1, []), (1500, .iaload, 1, []), (1501, .invokevirtual 144, 3, [1, 165, 11, 1, 1, 0]), (1504, .aload_n 2, 1, []), (1505, .aload_n 0, 1, []), (1506, .iload 4, 2, []), (1508, .iconst 1, 1, []), (1509, .iadd, 1, []), (1510, .iaload, 1, []), (1511, .invokevirtual 147, 3, [1, 75, 12, 1, 1, 0]), (1514, .if_icmp .eq 30, 3, [1544]), (1517, .iconst 0, 1, []), (1518, .ireturn, 1, []), (1519, .aload_n 1, 1, []), (1520, .aload_n 0, 1, []), (1521, .iload 4, 2, []), (1523, .iconst 1, 1, []), (1524, .iadd, 1, []), (1525, .iaload, 1, []), (1526, .invokevirtual 148, 3, [6]), (1529, .aload_n 2, 1, []), (1530, .aload_n 0, 1, []), (1531, .iload 4, 2, []), (1533, .iconst 1, 1, []), (1534, .iadd, 1, []), (1535, .iaload, 1, []), (1536, .invokevirtual 151, 3, [1, 76, 12, 1, 1, 0]), (1539, .if_icmp .eq 5, 3, [1544]), (1542, .iconst 0, 1, []), (1543, .ireturn, 1, []), (1544, .iinc 4 6, 3, []), (1547, .goto (-1524), 3, [23]), (1550, .iconst 1, 1, []), (1551, .ireturn, 1, [])]
def xm_79 : xM := (yL_law, cL_law, 8, 1, 0, (some .boolean), xk_79, [(23, [5, 6, 7]), (176, [5, 6, 7]), (201, [5, 6, 7]), (238, [5, 6, 7]), (275, [5, 6, 7]), (300, [5, 6, 7]), (349, [5, 6, 7]), (422, [5, 6, 7]), (495, [5, 6, 7]), (556, [5, 6, 7]), (605, [5, 6, 7]), (666, [5, 6, 7]), (727, [5, 6, 7]), (788, [5, 6, 7]), (849, [5, 6, 7]), (910, [5, 6, 7]), (947, [5, 6, 7]), (1008, [5, 6, 7]), (1045, [5, 6, 7]), (1082, [5, 6, 7]), (1119, [5, 6, 7]), (1144, [5, 6, 7]), (1157, [5, 6, 7]), (1170, [5, 6, 7]), (1195, [5, 6, 7]), (1256, [5, 6, 7]), (1305, [5, 6, 7]), (1354, [5, 6, 7]), (1421, [5, 6, 7]), (1494, [5, 6, 7]), (1519, [5, 6, 7]), (1544, [5, 6, 7])])
def xk_80 : List xE := [(0, .aload_n 0, 1, []), (1, .invokespecial 3, 3, [4]), (4, .aload_n 0, 1, []), (5, .iload_n 1, 1, []), (6, .putfield 9, 3, [100, 0]), (9, .aload_n 0, 1, []), (10, .iload_n 2, 1, []), (11, .putfield 15, 3, [100, 1]), (14, .return_, 1, [])]
def xm_80 : xM := (yX0_init, cX0_init, 3, 0, 0, (Option.none : Option Jvm.ClassFile.FieldType), xk_80, [])
def xk_81 : List xE := [(0, .iconst 1, 1, []), (1, .iload_n 1, 1, []), (2, .ishl, 1, []), (3, .ireturn, 1, [])]
def xm_81 : xM := (yX0_loads, cX0_loads, 4, 1, 0, (Option.some Jvm.ClassFile.FieldType.int), xk_81, [])
def xk_82 : List xE := [(0, .iload_n 2, 1, []), (1, .iload_n 3, 1, []), (2, .iand, 1, []), (3, .ifCond .ne 7, 3, [10]), (6, .iconst 1, 1, []), (7, .goto 4, 3, [11]), (10, .iconst 0, 1, []), (11, .ireturn, 1, [])]
def xm_82 : xM := (yX0_mayGo, cX0_mayGo, 4, 1, 0, (Option.some Jvm.ClassFile.FieldType.boolean), xk_82, [])
def xk_83 : List xE := [(0, .iload_n 2, 1, []), (1, .ireturn, 1, [])]
def xm_83 : xM := (yX0_leaves, cX0_leaves, 3, 1, 0, (Option.some Jvm.ClassFile.FieldType.int), xk_83, [])
def xk_84 : List xE := [(0, .bipush 10, 2, []), (2, .ireturn, 1, [])]
def xm_84 : xM := (yX0_weightOf, cX0_weightOf, 4, 1, 0, (Option.some Jvm.ClassFile.FieldType.int), xk_84, [])
def xk_85 : List xE := [(0, .iconst 5, 1, []), (1, .ireturn, 1, [])]
def xm_85 : xM := (yX0_mostRoads, cX0_mostRoads, 1, 1, 0, (Option.some Jvm.ClassFile.FieldType.int), xk_85, [])
def xk_86 : List xE := [(0, .iconst 5, 1, []), (1, .ireturn, 1, [])]
def xm_86 : xM := (yX0_pay, cX0_pay, 1, 1, 0, (Option.some Jvm.ClassFile.FieldType.int), xk_86, [])
def xk_87 : List xE := [(0, .aload_n 0, 1, []), (1, .iload_n 1, 1, []), (2, .iload_n 2, 1, []), (3, .invokespecial 1, 3, [3, 80, 2, 0, 0]), (6, .return_, 1, [])]
def xm_87 : xM := (yX1_init, cX1_init, 3, 0, 0, (Option.none : Option Jvm.ClassFile.FieldType), xk_87, [])
def xk_88 : List xE := [(0, .iload_n 1, 1, []), (1, .aload_n 0, 1, []), (2, .getfield 7, 3, [100, 1]), (5, .if_icmp .eq 13, 3, [18]), (8, .aload_n 0, 1, []), (9, .iload_n 1, 1, []), (10, .iload_n 2, 1, []), (11, .iload_n 3, 1, []), (12, .invokespecial 13, 3, [3, 82, 3, 1, 0]), (15, .ifCond .eq 7, 3, [22]), (18, .iconst 1, 1, []), (19, .goto 4, 3, [23]), (22, .iconst 0, 1, []), (23, .ireturn, 1, [])]
def xm_88 : xM := (yX1_mayGo, cX1_mayGo, 4, 1, 0, (Option.some Jvm.ClassFile.FieldType.boolean), xk_88, [])
def xk_89 : List xE := [(0, .iload_n 1, 1, []), (1, .aload_n 0, 1, []), (2, .getfield 7, 3, [100, 1]), (5, .if_icmp .ne 7, 3, [12]), (8, .iconst 0, 1, []), (9, .goto 4, 3, [13]), (12, .iload_n 2, 1, []), (13, .ireturn, 1, [])]
def xm_89 : xM := (yX1_leaves, cX1_leaves, 3, 1, 0, (Option.some Jvm.ClassFile.FieldType.int), xk_89, [])
def xk_90 : List xE := [(0, .iconst 3, 1, []), (1, .aload_n 0, 1, []), (2, .invokespecial 17, 3, [3, 86, 0, 1, 0]), (5, .imul, 1, []), (6, .ireturn, 1, [])]
def xm_90 : xM := (yX1_pay, cX1_pay, 1, 1, 0, (Option.some Jvm.ClassFile.FieldType.int), xk_90, [])
def xk_91 : List xE := [(0, .aload_n 0, 1, []), (1, .aload_n 1, 1, []), (2, .getfield 9, 3, [2, 0]), (5, .putfield 9, 3, [2, 0]), (8, .aload_n 0, 1, []), (9, .aload_n 1, 1, []), (10, .getfield 37, 3, [2, 1]), (13, .putfield 37, 3, [2, 1]), (16, .aload_n 0, 1, []), (17, .aload_n 1, 1, []), (18, .getfield 40, 3, [2, 2]), (21, .putfield 40, 3, [2, 2]), (24, .aload_n 0, 1, []), (25, .aload_n 1, 1, []), (26, .getfield 43, 3, [2, 3]), (29, .putfield 43, 3, [2, 3]), (32, .aload_n 1, 1, []), (33, .getfield 15, 3, [2, 4]), (36, .iconst 0, 1, []), (37, .aload_n 0, 1, []), (38, .getfield 15, 3, [2, 4]), (41, .iconst 0, 1, []), (42, .bipush 9, 2, []), (44, .invokestatic 47, 3, [5]), (47, .aload_n 1, 1, []), (48, .getfield 19, 3, [2, 5]), (51, .iconst 0, 1, []), (52, .aload_n 0, 1, []), (53, .getfield 19, 3, [2, 5]), (56, .iconst 0, 1, []), (57, .bipush 9, 2, []), (59, .invokestatic 47, 3, [5]), (62, .aload_n 1, 1, []), (63, .getfield 22, 3, [2, 6]), (66, .iconst 0, 1, []), (67, .aload_n 0, 1, []), (68, .getfield 22, 3, [2, 6]), (71, .iconst 0, 1, []), (72, .bipush 9, 2, []), (74, .invokestatic 47, 3, [5]), (77, .iconst 0, 1, []), (78, .istore_n 2, 1, []), (79, .iload_n 2, 1, []), (80, .bipush 6, 2, []), (82, .if_icmp .ge 21, 3, [103]), (85, .aload_n 0, 1, []), (86, .getfield 27, 3, [2, 7]), (89, .iload_n 2, 1, []), (90, .aload_n 1, 1, []), (91, .getfield 27, 3, [2, 7]), (94, .iload_n 2, 1, []), (95, .aaload, 1, []), (96, .aastore, 1, []), (97, .iinc 2 1, 3, []), (100, .goto (-21), 3, [79]), (103, .return_, 1, [])]
def xm_91 : xM := (yX2_become, cX2_become, 3, 0, 0, (Option.none : Option Jvm.ClassFile.FieldType), xk_91, [(79, [])])
def xk_92 : List xE := [(0, .iload_n 1, 1, []), (1, .ifCond .lt 15, 3, [16]), (4, .iload_n 1, 1, []), (5, .aload_n 0, 1, []), (6, .getfield 9, 3, [2, 0]), (9, .if_icmp .ge 7, 3, [16]), (12, .iconst 1, 1, []), (13, .goto 4, 3, [17]), (16, .iconst 0, 1, []), (17, .ireturn, 1, [])]
def xm_92 : xM := (yX2_hasPlace, cX2_hasPlace, 2, 1, 0, (Option.some Jvm.ClassFile.FieldType.boolean), xk_92, [])
def xk_93 : List xE := [(0, .aload_n 0, 1, []), (1, .iload_n 1, 1, []), (2, .invokevirtual 53, 3, [1, 92, 2, 1, 1, 0]), (5, .ifCond .eq 20, 3, [25]), (8, .aload_n 0, 1, []), (9, .iload_n 2, 1, []), (10, .invokevirtual 53, 3, [1, 92, 2, 1, 1, 0]), (13, .ifCond .eq 12, 3, [25]), (16, .iload_n 1, 1, []), (17, .iload_n 2, 1, []), (18, .if_icmp .eq 7, 3, [25]), (21, .iconst 1, 1, []), (22, .goto 4, 3, [26]), (25, .iconst 0, 1, []), (26, .ireturn, 1, [])]
def xm_93 : xM := (yX2_areTwoPlaces, cX2_areTwoPlaces, 3, 1, 0, (Option.some Jvm.ClassFile.FieldType.boolean), xk_93, [])
def xk_94 : List xE := [(0, .iload_n 1, 1, []), (1, .ifCond .lt 15, 3, [16]), (4, .iload_n 1, 1, []), (5, .aload_n 0, 1, []), (6, .getfield 37, 3, [2, 1]), (9, .if_icmp .ge 7, 3, [16]), (12, .iconst 1, 1, []), (13, .goto 4, 3, [17]), (16, .iconst 0, 1, []), (17, .ireturn, 1, [])]
def xm_94 : xM := (yX2_hasRoad, cX2_hasRoad, 2, 1, 0, (Option.some Jvm.ClassFile.FieldType.boolean), xk_94, [])
def xk_95 : List xE := [(0, .iload_n 1, 1, []), (1, .ifCond .lt 26, 3, [27]), (4, .iload_n 1, 1, []), (5, .aload_n 0, 1, []), (6, .getfield 40, 3, [2, 2]), (9, .if_icmp .ge 18, 3, [27]), (12, .iload_n 1, 1, []), (13, .bipush 6, 2, []), (15, .if_icmp .ge 12, 3, [27]), (18, .aload_n 0, 1, []), (19, .getfield 27, 3, [2, 7]), (22, .iload_n 1, 1, []), (23, .aaload, 1, []), (24, .goto 4, 3, [28]), (27, .aconst_null, 1, [16]), (28, .areturn, 1, [])]
def xm_95 : xM := (yX2_carrierAt, cX2_carrierAt, 2, 3, 16, (Option.some (Jvm.ClassFile.FieldType.object "OncePerRoad$Carrier")), xk_95, [])
def xk_96 : List xE := [(0, .iload_n 1, 1, []), (1, .aload_n 0, 1, []), (2, .getfield 9, 3, [2, 0]), (5, .if_icmp .lt 9, 3, [14]), (8, .iload_n 1, 1, []), (9, .bipush 6, 2, []), (11, .if_icmp .le 5, 3, [16]), (14, .iconst 0, 1, []), (15, .ireturn, 1, []), (16, .aload_n 0, 1, []), (17, .iload_n 1, 1, []), (18, .putfield 9, 3, [2, 0]), (21, .iconst 1, 1, []), (22, .ireturn, 1, [])]
def xm_96 : xM := (yX2_setPlaces, cX2_setPlaces, 2, 1, 0, (Option.some Jvm.ClassFile.FieldType.boolean), xk_96, [])
def xk_97 : List xE := [(0, .aload_n 0, 1, []), (1, .iload_n 1, 1, []), (2, .iload_n 2, 1, []), (3, .invokevirtual 57, 3, [1, 93, 2, 2, 1, 0]), (6, .ifCond .eq 23, 3, [29]), (9, .iload_n 3, 1, []), (10, .iconst 1, 1, []), (11, .if_icmp .lt 18, 3, [29]), (14, .iload_n 3, 1, []), (15, .bipush 9, 2, []), (17, .if_icmp .gt 12, 3, [29]), (20, .aload_n 0, 1, []), (21, .getfield 37, 3, [2, 1]), (24, .bipush 9, 2, []), (26, .if_icmp .lt 5, 3, [31]), (29, .iconst 0, 1, []), (30, .ireturn, 1, []), (31, .aload_n 0, 1, []), (32, .getfield 15, 3, [2, 4]), (35, .aload_n 0, 1, []), (36, .getfield 37, 3, [2, 1]), (39, .iload_n 1, 1, []), (40, .iastore, 1, []), (41, .aload_n 0, 1, []), (42, .getfield 19, 3, [2, 5]), (45, .aload_n 0, 1, []), (46, .getfield 37, 3, [2, 1]), (49, .iload_n 2, 1, []), (50, .iastore, 1, []), (51, .aload_n 0, 1, []), (52, .getfield 22, 3, [2, 6]), (55, .aload_n 0, 1, []), (56, .getfield 37, 3, [2, 1]), (59, .iload_n 3, 1, []), (60, .iastore, 1, []), (61, .aload_n 0, 1, []), (62, .dup, 1, []), (63, .getfield 37, 3, [2, 1]), (66, .iconst 1, 1, []), (67, .iadd, 1, []), (68, .putfield 37, 3, [2, 1]), (71, .iconst 1, 1, []), (72, .ireturn, 1, [])]
def xm_97 : xM := (yX2_addRoad, cX2_addRoad, 4, 1, 0, (Option.some Jvm.ClassFile.FieldType.boolean), xk_97, [])
def xk_98 : List xE := [(0, .aload_n 1, 1, []), (1, .ifnull 12, 3, [13]), (4, .aload_n 0, 1, []), (5, .getfield 40, 3, [2, 2]), (8, .bipush 6, 2, []), (10, .if_icmp .lt 5, 3, [15]), (13, .iconst 0, 1, []), (14, .ireturn, 1, []), (15, .aload_n 0, 1, []), (16, .getfield 27, 3, [2, 7]), (19, .aload_n 0, 1, []), (20, .getfield 40, 3, [2, 2]), (23, .aload_n 1, 1, []), (24, .aastore, 1, []), (25, .aload_n 0, 1, []), (26, .dup, 1, []), (27, .getfield 40, 3, [2, 2]), (30, .iconst 1, 1, []), (31, .iadd, 1, []), (32, .putfield 40, 3, [2, 2]), (35, .iconst 1, 1, []), (36, .ireturn, 1, [])]
def xm_98 : xM := (yX2_addCarrier, cX2_addCarrier, 2, 1, 0, (Option.some Jvm.ClassFile.FieldType.boolean), xk_98, [])
def xk_99 : List xE := [(0, .aload_n 0, 1, []), (1, .getfield 43, 3, [2, 3]), (4, .iconst 4, 1, []), (5, .iload_n 1, 1, []), (6, .imul, 1, []), (7, .lshr, 1, []), (8, .l2i, 1, []), (9, .bipush 15, 2, []), (11, .iand, 1, []), (12, .ireturn, 1, [])]
def xm_99 : xM := (yX2_nicksOf, cX2_nicksOf, 2, 1, 0, (Option.some Jvm.ClassFile.FieldType.int), xk_99, [])
def xk_100 : List xE := [(0, .aload_n 0, 1, []), (1, .getfield 43, 3, [2, 3]), (4, .iload_n 1, 1, []), (5, .iload_n 2, 1, []), (6, .invokestatic 61, 3, [0, 168, 2, 2, 0]), (9, .land, 1, []), (10, .lconst 0, 1, []), (11, .lcmp, 1, []), (12, .ifCond .ne 7, 3, [19]), (15, .iconst 1, 1, []), (16, .goto 4, 3, [20]), (19, .iconst 0, 1, []), (20, .ireturn, 1, [])]
def xm_100 : xM := (yX2_isFree, cX2_isFree, 3, 1, 0, (Option.some Jvm.ClassFile.FieldType.boolean), xk_100, [])
def xk_101 : List xE := [(0, .aload_n 0, 1, []), (1, .iload_n 1, 1, []), (2, .invokevirtual 65, 3, [1, 94, 2, 1, 1, 0]), (5, .ifCond .eq 20, 3, [25]), (8, .iload_n 2, 1, []), (9, .iconst 4, 1, []), (10, .invokestatic 68, 3, [0, 166, 2, 1, 0]), (13, .ifCond .eq 12, 3, [25]), (16, .aload_n 0, 1, []), (17, .iload_n 1, 1, []), (18, .iload_n 2, 1, []), (19, .invokevirtual 71, 3, [1, 100, 2, 2, 1, 0]), (22, .ifCond .ne 5, 3, [27]), (25, .iconst 0, 1, []), (26, .ireturn, 1, []), (27, .aload_n 0, 1, []), (28, .dup, 1, []), (29, .getfield 43, 3, [2, 3]), (32, .iload_n 1, 1, []), (33, .iload_n 2, 1, []), (34, .invokestatic 61, 3, [0, 168, 2, 2, 0]), (37, .lor, 1, []), (38, .putfield 43, 3, [2, 3]), (41, .iconst 1, 1, []), (42, .ireturn, 1, [])]
def xm_101 : xM := (yX2_addNick, cX2_addNick, 3, 1, 0, (Option.some Jvm.ClassFile.FieldType.boolean), xk_101, [])
def xk_102 : List xE := [(0, .iconst 0, 1, []), (1, .istore_n 1, 1, []), (2, .iconst 0, 1, []), (3, .istore_n 2, 1, []), (4, .iload_n 2, 1, []), (5, .aload_n 0, 1, []), (6, .getfield 37, 3, [2, 1]), (9, .if_icmp .ge 18, 3, [27]), (12, .iload_n 1, 1, []), (13, .aload_n 0, 1, []), (14, .getfield 22, 3, [2, 6]), (17, .iload_n 2, 1, []), (18, .iaload, 1, []), (19, .iadd, 1, []), (20, .istore_n 1, 1, []), (21, .iinc 2 1, 3, []), (24, .goto (-20), 3, [4]), (27, .iload_n 1, 1, []), (28, .ireturn, 1, [])]
def xm_102 : xM := (yX2_milesOfAll, cX2_milesOfAll, 3, 1, 0, (Option.some Jvm.ClassFile.FieldType.int), xk_102, [(4, [])])
def xk_103 : List xE := [(0, .aload_n 0, 1, []), (1, .iload_n 1, 1, []), (2, .invokevirtual 65, 3, [1, 94, 2, 1, 1, 0]), (5, .ifCond .ne 5, 3, [10]), (8, .iconst (-1), 1, []), (9, .ireturn, 1, []), (10, .aload_n 0, 1, []), (11, .getfield 15, 3, [2, 4]), (14, .iload_n 1, 1, []), (15, .iaload, 1, []), (16, .iload_n 2, 1, []), (17, .if_icmp .ne 10, 3, [27]), (20, .aload_n 0, 1, []), (21, .getfield 19, 3, [2, 5]), (24, .iload_n 1, 1, []), (25, .iaload, 1, []), (26, .ireturn, 1, []), (27, .aload_n 0, 1, []), (28, .getfield 19, 3, [2, 5]), (31, .iload_n 1, 1, []), (32, .iaload, 1, []), (33, .iload_n 2, 1, []), (34, .if_icmp .ne 12, 3, [46]), (37, .aload_n 0, 1, []), (38, .getfield 15, 3, [2, 4]), (41, .iload_n 1, 1, []), (42, .iaload, 1, []), (43, .goto 4, 3, [47]), (46, .iconst (-1), 1, []), (47, .ireturn, 1, [])]
def xm_103 : xM := (yX2_otherEnd, cX2_otherEnd, 3, 1, 0, (Option.some Jvm.ClassFile.FieldType.int), xk_103, [])
def xk_104 : List xE := [(0, .iconst 0, 1, []), (1, .istore 5, 2, []), (3, .iload 5, 2, []), (5, .bipush 6, 2, []), (7, .if_icmp .ge 18, 3, [25]), (10, .aload_n 0, 1, []), (11, .getfield 34, 3, [2, 9]), (14, .iload 5, 2, []), (16, .bipush (-4), 2, []), (18, .iastore, 1, []), (19, .iinc 5 1, 3, []), (22, .goto (-19), 3, [3]), (25, .aload_n 0, 1, []), (26, .getfield 34, 3, [2, 9]), (29, .iload_n 2, 1, []), (30, .iconst 0, 1, []), (31, .iastore, 1, []), (32, .iconst 1, 1, []), (33, .istore 5, 2, []), (35, .iload 5, 2, []), (37, .aload_n 0, 1, []), (38, .getfield 9, 3, [2, 0]), (41, .if_icmp .ge 94, 3, [135]), (44, .iconst 0, 1, []), (45, .istore 6, 2, []), (47, .iload 6, 2, []), (49, .aload_n 0, 1, []), (50, .getfield 37, 3, [2, 1]), (53, .if_icmp .ge 76, 3, [129]), (56, .iload 6, 2, []), (58, .iload 4, 2, []), (60, .if_icmp .eq 63, 3, [123]), (63, .aload_n 0, 1, []), (64, .iload 6, 2, []), (66, .iload_n 1, 1, []), (67, .invokevirtual 71, 3, [1, 100, 2, 2, 1, 0]), (70, .ifCond .eq 53, 3, [123]), (73, .aload_n 0, 1, []), (74, .aload_n 0, 1, []), (75, .getfield 15, 3, [2, 4]), (78, .iload 6, 2, []), (80, .iaload, 1, []), (81, .aload_n 0, 1, []), (82, .getfield 19, 3, [2, 5]), (85, .iload 6, 2, []), (87, .iaload, 1, []), (88, .aload_n 0, 1, []), (89, .getfield 22, 3, [2, 6]), (92, .iload 6, 2, []), (94, .iaload, 1, []), (95, .invokevirtual 74, 3, [1, 105, 2, 3, 0, 0]), (98, .aload_n 0, 1, []), (99, .aload_n 0, 1, []), (100, .getfield 19, 3, [2, 5]), (103, .iload 6, 2, []), (105, .iaload, 1, []), (106, .aload_n 0, 1, []), (107, .getfield 15, 3, [2, 4]), (110, .iload 6, 2, []), (112, .iaload, 1, []), (113, .aload_n 0, 1, []), (114, .getfield 22, 3, [2, 6]), (117, .iload 6, 2, []), (119, .iaload, 1, []), (120, .invokevirtual 74, 3, [1, 105, 2, 3, 0, 0]), (123, .iinc 6 1, 3, []), (126, .goto (-79), 3, [47]), (129, .iinc 5 1, 3, []), (132, .goto (-97), 3, [35]), (135, .aload_n 0, 1, []), (136, .getfield 34, 3, [2, 9]), (139, .iload_n 3, 1, []), (140, .iaload, 1, []), (141, .ireturn, 1, [])]
def xm_104 : xM := (yX2_leastMiles, cX2_leastMiles, 7, 1, 0, (Option.some Jvm.ClassFile.FieldType.int), xk_104, [(3, [6]), (35, [2, 6]), (47, [2])])
def xk_105 : List xE := [(0, .aload_n 0, 1, []), (1, .getfield 34, 3, [2, 9]), (4, .iload_n 1, 1, []), (5, .iaload, 1, []), (6, .iload_n 3, 1, []), (7, .iadd, 1, []), (8, .istore 4, 2, []), (10, .aload_n 0, 1, []), (11, .getfield 34, 3, [2, 9]), (14, .iload_n 1, 1, []), (15, .iaload, 1, []), (16, .bipush (-4), 2, []), (18, .if_icmp .eq 33, 3, [51]), (21, .aload_n 0, 1, []), (22, .getfield 34, 3, [2, 9]), (25, .iload_n 2, 1, []), (26, .iaload, 1, []), (27, .bipush (-4), 2, []), (29, .if_icmp .eq 14, 3, [43]), (32, .iload 4, 2, []), (34, .aload_n 0, 1, []), (35, .getfield 34, 3, [2, 9]), (38, .iload_n 2, 1, []), (39, .iaload, 1, []), (40, .if_icmp .ge 11, 3, [51]), (43, .aload_n 0, 1, []), (44, .getfield 34, 3, [2, 9]), (47, .iload_n 2, 1, []), (48, .iload 4, 2, []), (50, .iastore, 1, []), (51, .return_, 1, [])]
def xm_105 : xM := (yX2_reachAlong, cX2_reachAlong, 5, 0, 0, (Option.none : Option Jvm.ClassFile.FieldType), xk_105, [])
def xk_106 : List xE := [(0, .iconst 0, 1, []), (1, .istore_n 2, 1, []), (2, .iload_n 2, 1, []), (3, .iconst 1, 1, []), (4, .aload_n 0, 1, []), (5, .getfield 9, 3, [2, 0]), (8, .ishl, 1, []), (9, .if_icmp .ge 16, 3, [25]), (12, .aload_n 0, 1, []), (13, .getfield 31, 3, [2, 8]), (16, .iload_n 2, 1, []), (17, .iconst 0, 1, []), (18, .iastore, 1, []), (19, .iinc 2 1, 3, []), (22, .goto (-20), 3, [2]), (25, .iconst 0, 1, []), (26, .istore_n 2, 1, []), (27, .iload_n 2, 1, []), (28, .aload_n 0, 1, []), (29, .getfield 37, 3, [2, 1]), (32, .if_icmp .ge 69, 3, [101]), (35, .iconst 0, 1, []), (36, .istore_n 3, 1, []), (37, .aload_n 0, 1, []), (38, .iload_n 2, 1, []), (39, .iload_n 1, 1, []), (40, .invokevirtual 71, 3, [1, 100, 2, 2, 1, 0]), (43, .ifCond .eq 52, 3, [95]), (46, .iload_n 3, 1, []), (47, .iconst 1, 1, []), (48, .aload_n 0, 1, []), (49, .getfield 9, 3, [2, 0]), (52, .ishl, 1, []), (53, .if_icmp .ge 42, 3, [95]), (56, .iload_n 3, 1, []), (57, .aload_n 0, 1, []), (58, .getfield 15, 3, [2, 4]), (61, .iload_n 2, 1, []), (62, .iaload, 1, []), (63, .invokestatic 78, 3, [0, 167, 2, 1, 0]), (66, .iload_n 3, 1, []), (67, .aload_n 0, 1, []), (68, .getfield 19, 3, [2, 5]), (71, .iload_n 2, 1, []), (72, .iaload, 1, []), (73, .invokestatic 78, 3, [0, 167, 2, 1, 0]), (76, .if_icmp .eq 13, 3, [89]), (79, .aload_n 0, 1, []), (80, .getfield 31, 3, [2, 8]), (83, .iload_n 3, 1, []), (84, .dup2, 1, []), (85, .iaload, 1, []), (86, .iconst 1, 1, []), (87, .iadd, 1, []), (88, .iastore, 1, []), (89, .iinc 3 1, 3, []), (92, .goto (-55), 3, [37]), (95, .iinc 2 1, 3, []), (98, .goto (-71), 3, [27]), (101, .return_, 1, [])]
def xm_106 : xM := (yX2_countLeading, cX2_countLeading, 4, 0, 0, (Option.none : Option Jvm.ClassFile.FieldType), xk_106, [(2, [3]), (27, [3]), (37, [])])
def xk_107 : List xE := [(0, .bipush (-4), 2, []), (2, .istore 6, 2, []), (4, .iconst 0, 1, []), (5, .istore 7, 2, []), (7, .iload 7, 2, []), (9, .iconst 1, 1, []), (10, .aload_n 0, 1, []), (11, .getfield 9, 3, [2, 0]), (14, .ishl, 1, []), (15, .if_icmp .ge 80, 3, [95]), (18, .iload 7, 2, []), (20, .iload_n 1, 1, []), (21, .invokestatic 78, 3, [0, 167, 2, 1, 0]), (24, .ifCond .eq 65, 3, [89]), (27, .iload 7, 2, []), (29, .iload_n 2, 1, []), (30, .invokestatic 78, 3, [0, 167, 2, 1, 0]), (33, .ifCond .eq 6, 3, [39]), (36, .goto 53, 3, [89]), (39, .aload_n 0, 1, []), (40, .getfield 31, 3, [2, 8]), (43, .iload 7, 2, []), (45, .iaload, 1, []), (46, .iload 7, 2, []), (48, .iload_n 3, 1, []), (49, .invokestatic 78, 3, [0, 167, 2, 1, 0]), (52, .iload 7, 2, []), (54, .iload 4, 2, []), (56, .invokestatic 78, 3, [0, 167, 2, 1, 0]), (59, .if_icmp .eq 8, 3, [67]), (62, .iload 5, 2, []), (64, .goto 4, 3, [68]), (67, .iconst 0, 1, []), (68, .iadd, 1, []), (69, .istore 8, 2, []), (71, .iload 6, 2, []), (73, .bipush (-4), 2, []), (75, .if_icmp .eq 10, 3, [85]), (78, .iload 8, 2, []), (80, .iload 6, 2, []), (82, .if_icmp .ge 7, 3, [89]), (85, .iload 8, 2, []), (87, .istore 6, 2, []), (89, .iinc 7 1, 3, []), (92, .goto (-85), 3, [7]), (95, .iload 6, 2, []), (97, .ireturn, 1, [])]
def xm_107 : xM := (yX2_fewestLeading, cX2_fewestLeading, 9, 1, 0, (Option.some Jvm.ClassFile.FieldType.int), xk_107, [(7, [8]), (68, [8])])
def xk_108 : List xE := [(0, .iconst 1, 1, []), (1, .iload_n 1, 1, []), (2, .ishl, 1, []), (3, .istore_n 3, 1, []), (4, .iconst 1, 1, []), (5, .aload_n 0, 1, []), (6, .getfield 9, 3, [2, 0]), (9, .ishl, 1, []), (10, .iconst 1, 1, []), (11, .isub, 1, []), (12, .istore 4, 2, []), (14, .iload 4, 2, []), (16, .ifCond .lt 46, 3, [62]), (19, .iload 4, 2, []), (21, .iload_n 1, 1, []), (22, .invokestatic 78, 3, [0, 167, 2, 1, 0]), (25, .ifCond .eq 31, 3, [56]), (28, .iload 4, 2, []), (30, .iload_n 2, 1, []), (31, .invokestatic 78, 3, [0, 167, 2, 1, 0]), (34, .ifCond .ne 22, 3, [56]), (37, .aload_n 0, 1, []), (38, .getfield 31, 3, [2, 8]), (41, .iload 4, 2, []), (43, .iaload, 1, []), (44, .aload_n 0, 1, []), (45, .getfield 31, 3, [2, 8]), (48, .iload_n 3, 1, []), (49, .iaload, 1, []), (50, .if_icmp .gt 6, 3, [56]), (53, .iload 4, 2, []), (55, .istore_n 3, 1, []), (56, .iinc 4 (-1), 3, []), (59, .goto (-45), 3, [14]), (62, .iload_n 3, 1, []), (63, .ireturn, 1, [])]
def xm_108 : xM := (yX2_bars, cX2_bars, 5, 1, 0, (Option.some Jvm.ClassFile.FieldType.int), xk_108, [(14, [])])
def xk_109 : List xE := [(0, .iconst 0, 1, []), (1, .istore_n 3, 1, []), (2, .iconst 0, 1, []), (3, .istore 4, 2, []), (5, .iload 4, 2, []), (7, .iload_n 2, 1, []), (8, .if_icmp .gt 55, 3, [63]), (11, .iload 4, 2, []), (13, .iload_n 2, 1, []), (14, .iconst (-1), 1, []), (15, .ixor, 1, []), (16, .iand, 1, []), (17, .ifCond .ne 19, 3, [36]), (20, .iload 4, 2, []), (22, .invokestatic 81, 3, [0, 77, 1, 1, 0]), (25, .iload_n 3, 1, []), (26, .invokestatic 81, 3, [0, 77, 1, 1, 0]), (29, .if_icmp .le 7, 3, [36]), (32, .iconst 1, 1, []), (33, .goto 4, 3, [37]), (36, .iconst 0, 1, []), (37, .istore 5, 2, []), (39, .iload 5, 2, []), (41, .ifCond .eq 16, 3, [57]), (44, .aload_n 0, 1, []), (45, .iload_n 1, 1, []), (46, .iload 4, 2, []), (48, .invokevirtual 87, 3, [1, 110, 2, 2, 1, 0]), (51, .ifCond .eq 6, 3, [57]), (54, .iload 4, 2, []), (56, .istore_n 3, 1, []), (57, .iinc 4 1, 3, []), (60, .goto (-55), 3, [5]), (63, .iload_n 3, 1, []), (64, .ireturn, 1, [])]
def xm_109 : xM := (yX2_mostServed, cX2_mostServed, 6, 1, 0, (Option.some Jvm.ClassFile.FieldType.int), xk_109, [(5, [5]), (37, [5])])
def xk_110 : List xE := [(0, .iconst 0, 1, []), (1, .istore_n 3, 1, []), (2, .iload_n 3, 1, []), (3, .iconst 1, 1, []), (4, .aload_n 0, 1, []), (5, .getfield 9, 3, [2, 0]), (8, .ishl, 1, []), (9, .if_icmp .ge 36, 3, [45]), (12, .iload_n 3, 1, []), (13, .iload_n 1, 1, []), (14, .invokestatic 78, 3, [0, 167, 2, 1, 0]), (17, .ifCond .eq 22, 3, [39]), (20, .iload_n 2, 1, []), (21, .iload_n 3, 1, []), (22, .iconst (-1), 1, []), (23, .ixor, 1, []), (24, .iand, 1, []), (25, .invokestatic 81, 3, [0, 77, 1, 1, 0]), (28, .aload_n 0, 1, []), (29, .getfield 31, 3, [2, 8]), (32, .iload_n 3, 1, []), (33, .iaload, 1, []), (34, .if_icmp .le 5, 3, [39]), (37, .iconst 0, 1, []), (38, .ireturn, 1, []), (39, .iinc 3 1, 3, []), (42, .goto (-40), 3, [2]), (45, .iconst 1, 1, []), (46, .ireturn, 1, [])]
def xm_110 : xM := (yX2_areAllServed, cX2_areAllServed, 4, 1, 0, (Option.some Jvm.ClassFile.FieldType.boolean), xk_110, [(2, [])])
def xk_111 : List xE := [(0, .aload_n 0, 1, []), (1, .iload_n 1, 1, []), (2, .iload_n 2, 1, []), (3, .invokespecial 3, 3, [3, 80, 2, 0, 0]), (6, .return_, 1, [])]
def xm_111 : xM := (yX3_init, cX3_init, 3, 0, 0, (Option.none : Option Jvm.ClassFile.FieldType), xk_111, [])
def xk_112 : List xE := [(0, .iload_n 3, 1, []), (1, .ifCond .le 20, 3, [21]), (4, .iload_n 2, 1, []), (5, .aload_n 0, 1, []), (6, .getfield 9, 3, [100, 1]), (9, .iload_n 3, 1, []), (10, .irem, 1, []), (11, .ishr, 1, []), (12, .iconst 1, 1, []), (13, .iand, 1, []), (14, .ifCond .eq 7, 3, [21]), (17, .iconst 1, 1, []), (18, .goto 4, 3, [22]), (21, .iconst 0, 1, []), (22, .istore 4, 2, []), (24, .iconst 1, 1, []), (25, .iload 4, 2, []), (27, .ifCond .eq 11, 3, [38]), (30, .iload_n 1, 1, []), (31, .iconst 1, 1, []), (32, .iadd, 1, []), (33, .iconst 4, 1, []), (34, .irem, 1, []), (35, .goto 4, 3, [39]), (38, .iload_n 1, 1, []), (39, .ishl, 1, []), (40, .ireturn, 1, [])]
def xm_112 : xM := (yX3_loads, cX3_loads, 5, 1, 0, (Option.some Jvm.ClassFile.FieldType.int), xk_112, [(22, [0, 2, 3, 4])])
def xk_113 : List xE := [(0, .aload_n 0, 1, []), (1, .invokespecial 15, 3, [3, 86, 0, 1, 0]), (4, .iconst 2, 1, []), (5, .aload_n 0, 1, []), (6, .getfield 9, 3, [100, 1]), (9, .imul, 1, []), (10, .iadd, 1, []), (11, .ireturn, 1, [])]
def xm_113 : xM := (yX3_pay, cX3_pay, 1, 1, 0, (Option.some Jvm.ClassFile.FieldType.int), xk_113, [])
def xk_114 : List xE := [(0, .aload_n 0, 1, []), (1, .iload_n 1, 1, []), (2, .iload_n 2, 1, []), (3, .invokespecial 3, 3, [3, 111, 2, 0, 0]), (6, .return_, 1, [])]
def xm_114 : xM := (yX4_init, cX4_init, 3, 0, 0, (Option.none : Option Jvm.ClassFile.FieldType), xk_114, [])
def xk_115 : List xE := [(0, .aload_n 0, 1, []), (1, .iload_n 1, 1, []), (2, .iload_n 2, 1, []), (3, .iload_n 3, 1, []), (4, .invokespecial 9, 3, [3, 112, 3, 1, 0]), (7, .istore 4, 2, []), (9, .iload 4, 2, []), (11, .iload 4, 2, []), (13, .iconst 1, 1, []), (14, .ishl, 1, []), (15, .iload 4, 2, []), (17, .iconst 3, 1, []), (18, .ishr, 1, []), (19, .ior, 1, []), (20, .bipush 15, 2, []), (22, .iand, 1, []), (23, .ior, 1, []), (24, .ireturn, 1, [])]
def xm_115 : xM := (yX4_loads, cX4_loads, 5, 1, 0, (Option.some Jvm.ClassFile.FieldType.int), xk_115, [])
def xk_116 : List xE := [(0, .aload_n 0, 1, []), (1, .iload_n 1, 1, []), (2, .iload_n 2, 1, []), (3, .iload_n 3, 1, []), (4, .invokespecial 13, 3, [3, 84, 3, 1, 0]), (7, .iload_n 2, 1, []), (8, .iadd, 1, []), (9, .ireturn, 1, [])]
def xm_116 : xM := (yX4_weightOf, cX4_weightOf, 4, 1, 0, (Option.some Jvm.ClassFile.FieldType.int), xk_116, [])
def xk_117 : List xE := [(0, .iconst 2, 1, []), (1, .aload_n 0, 1, []), (2, .invokespecial 16, 3, [3, 113, 0, 1, 0]), (5, .imul, 1, []), (6, .ireturn, 1, [])]
def xm_117 : xM := (yX4_pay, cX4_pay, 1, 1, 0, (Option.some Jvm.ClassFile.FieldType.int), xk_117, [])
def xk_118 : List xE := [(0, .aload_n 0, 1, []), (1, .iload_n 1, 1, []), (2, .iload_n 2, 1, []), (3, .invokespecial 1, 3, [3, 80, 2, 0, 0]), (6, .return_, 1, [])]
def xm_118 : xM := (yX5_init, cX5_init, 3, 0, 0, (Option.none : Option Jvm.ClassFile.FieldType), xk_118, [])
def xk_119 : List xE := [(0, .bipush 10, 2, []), (2, .iload_n 2, 1, []), (3, .imul, 1, []), (4, .ireturn, 1, [])]
def xm_119 : xM := (yX5_weightOf, cX5_weightOf, 4, 1, 0, (Option.some Jvm.ClassFile.FieldType.int), xk_119, [])
def xk_120 : List xE := [(0, .aload_n 0, 1, []), (1, .invokespecial 7, 3, [3, 86, 0, 1, 0]), (4, .iconst 1, 1, []), (5, .isub, 1, []), (6, .ireturn, 1, [])]
def xm_120 : xM := (yX5_pay, cX5_pay, 1, 1, 0, (Option.some Jvm.ClassFile.FieldType.int), xk_120, [])
def xk_121 : List xE := [(0, .aload_n 0, 1, []), (1, .iload_n 1, 1, []), (2, .iload_n 2, 1, []), (3, .invokespecial 1, 3, [3, 80, 2, 0, 0]), (6, .return_, 1, [])]
def xm_121 : xM := (yX6_init, cX6_init, 3, 0, 0, (Option.none : Option Jvm.ClassFile.FieldType), xk_121, [])
def xk_122 : List xE := [(0, .aload_n 0, 1, []), (1, .iload_n 1, 1, []), (2, .iload_n 2, 1, []), (3, .iload_n 3, 1, []), (4, .invokespecial 7, 3, [3, 84, 3, 1, 0]), (7, .iload_n 1, 1, []), (8, .aload_n 0, 1, []), (9, .getfield 11, 3, [100, 1]), (12, .if_icmp .ne 8, 3, [20]), (15, .bipush 90, 2, []), (17, .goto 4, 3, [21]), (20, .iconst 0, 1, []), (21, .iadd, 1, []), (22, .ireturn, 1, [])]
def xm_122 : xM := (yX6_weightOf, cX6_weightOf, 4, 1, 0, (Option.some Jvm.ClassFile.FieldType.int), xk_122, [])
def xk_123 : List xE := [(0, .aload_n 0, 1, []), (1, .iload_n 1, 1, []), (2, .putfield 15, 3, [7, 1]), (5, .aload_n 0, 1, []), (6, .iload_n 2, 1, []), (7, .putfield 19, 3, [7, 2]), (10, .iconst 0, 1, []), (11, .istore_n 3, 1, []), (12, .iload_n 3, 1, []), (13, .aload_n 0, 1, []), (14, .getfield 9, 3, [7, 0]), (17, .arraylength, 1, []), (18, .if_icmp .ge 16, 3, [34]), (21, .aload_n 0, 1, []), (22, .getfield 9, 3, [7, 0]), (25, .iload_n 3, 1, []), (26, .iconst 0, 1, []), (27, .iastore, 1, []), (28, .iinc 3 1, 3, []), (31, .goto (-19), 3, [12]), (34, .return_, 1, [])]
def xm_123 : xM := (yX7_startAnew, cX7_startAnew, 4, 0, 0, (Option.none : Option Jvm.ClassFile.FieldType), xk_123, [(12, [1, 2])])
def xk_124 : List xE := [(0, .iload_n 1, 1, []), (1, .ifCond .lt 24, 3, [25]), (4, .iload_n 1, 1, []), (5, .aload_n 0, 1, []), (6, .getfield 19, 3, [7, 2]), (9, .if_icmp .ge 16, 3, [25]), (12, .iload_n 1, 1, []), (13, .aload_n 0, 1, []), (14, .getfield 9, 3, [7, 0]), (17, .arraylength, 1, []), (18, .if_icmp .ge 7, 3, [25]), (21, .iconst 1, 1, []), (22, .goto 4, 3, [26]), (25, .iconst 0, 1, []), (26, .ireturn, 1, [])]
def xm_124 : xM := (yX7_has, cX7_has, 2, 1, 0, (Option.some Jvm.ClassFile.FieldType.boolean), xk_124, [])
def xk_125 : List xE := [(0, .iload_n 1, 1, []), (1, .ifCond .lt 29, 3, [30]), (4, .iload_n 2, 1, []), (5, .ifCond .lt 25, 3, [30]), (8, .iload_n 2, 1, []), (9, .aload_n 0, 1, []), (10, .getfield 19, 3, [7, 2]), (13, .if_icmp .gt 17, 3, [30]), (16, .iload_n 1, 1, []), (17, .aload_n 0, 1, []), (18, .getfield 19, 3, [7, 2]), (21, .iload_n 2, 1, []), (22, .isub, 1, []), (23, .if_icmp .gt 7, 3, [30]), (26, .iconst 1, 1, []), (27, .goto 4, 3, [31]), (30, .iconst 0, 1, []), (31, .ireturn, 1, [])]
def xm_125 : xM := (yX7_hasStretch, cX7_hasStretch, 3, 1, 0, (Option.some Jvm.ClassFile.FieldType.boolean), xk_125, [])
def xk_126 : List xE := [(0, .aload_n 0, 1, []), (1, .iload_n 1, 1, []), (2, .invokevirtual 22, 3, [1, 124, 7, 1, 1, 0]), (5, .ifCond .eq 12, 3, [17]), (8, .aload_n 0, 1, []), (9, .getfield 9, 3, [7, 0]), (12, .iload_n 1, 1, []), (13, .iaload, 1, []), (14, .goto 4, 3, [18]), (17, .iconst (-1), 1, []), (18, .ireturn, 1, [])]
def xm_126 : xM := (yX7_cell, cX7_cell, 2, 1, 0, (Option.some Jvm.ClassFile.FieldType.int), xk_126, [])
def xk_127 : List xE := [(0, .aload_n 0, 1, []), (1, .iload_n 1, 1, []), (2, .invokevirtual 22, 3, [1, 124, 7, 1, 1, 0]), (5, .ifCond .ne 5, 3, [10]), (8, .iconst 0, 1, []), (9, .ireturn, 1, []), (10, .aload_n 0, 1, []), (11, .getfield 15, 3, [7, 1]), (14, .ifCond .ne 14, 3, [28]), (17, .aload_n 0, 1, []), (18, .getfield 9, 3, [7, 0]), (21, .iload_n 1, 1, []), (22, .iload_n 2, 1, []), (23, .i2b, 1, []), (24, .iastore, 1, []), (25, .goto 29, 3, [54]), (28, .aload_n 0, 1, []), (29, .getfield 15, 3, [7, 1]), (32, .iconst 1, 1, []), (33, .if_icmp .ne 14, 3, [47]), (36, .aload_n 0, 1, []), (37, .getfield 9, 3, [7, 0]), (40, .iload_n 1, 1, []), (41, .iload_n 2, 1, []), (42, .i2s, 1, []), (43, .iastore, 1, []), (44, .goto 10, 3, [54]), (47, .aload_n 0, 1, []), (48, .getfield 9, 3, [7, 0]), (51, .iload_n 1, 1, []), (52, .iload_n 2, 1, []), (53, .iastore, 1, []), (54, .iconst 1, 1, []), (55, .ireturn, 1, [])]
def xm_127 : xM := (yX7_set, cX7_set, 3, 1, 0, (Option.some Jvm.ClassFile.FieldType.boolean), xk_127, [])
def xk_128 : List xE := [(0, .aload_n 0, 1, []), (1, .iload_n 1, 1, []), (2, .iload_n 2, 1, []), (3, .invokespecial 3, 3, [3, 118, 2, 0, 0]), (6, .return_, 1, [])]
def xm_128 : xM := (yX8_init, cX8_init, 3, 0, 0, (Option.none : Option Jvm.ClassFile.FieldType), xk_128, [])
def xk_129 : List xE := [(0, .aload_n 0, 1, []), (1, .iload_n 1, 1, []), (2, .iload_n 2, 1, []), (3, .iload_n 3, 1, []), (4, .invokespecial 9, 3, [3, 119, 3, 1, 0]), (7, .iconst 4, 1, []), (8, .iadd, 1, []), (9, .iload_n 3, 1, []), (10, .invokestatic 13, 3, [0, 77, 1, 1, 0]), (13, .isub, 1, []), (14, .ireturn, 1, [])]
def xm_129 : xM := (yX8_weightOf, cX8_weightOf, 4, 1, 0, (Option.some Jvm.ClassFile.FieldType.int), xk_129, [])
def xk_130 : List xE := [(0, .aload_n 0, 1, []), (1, .invokespecial 19, 3, [3, 120, 0, 1, 0]), (4, .aload_n 0, 1, []), (5, .getfield 23, 3, [100, 1]), (8, .iadd, 1, []), (9, .ireturn, 1, [])]
def xm_130 : xM := (yX8_pay, cX8_pay, 1, 1, 0, (Option.some Jvm.ClassFile.FieldType.int), xk_130, [])
def xk_131 : List xE := [(0, .aload_n 0, 1, []), (1, .iload_n 1, 1, []), (2, .iload_n 2, 1, []), (3, .invokespecial 1, 3, [3, 118, 2, 0, 0]), (6, .return_, 1, [])]
def xm_131 : xM := (yX9_init, cX9_init, 3, 0, 0, (Option.none : Option Jvm.ClassFile.FieldType), xk_131, [])
def xk_132 : List xE := [(0, .aload_n 0, 1, []), (1, .getfield 7, 3, [100, 1]), (4, .ireturn, 1, [])]
def xm_132 : xM := (yX9_mostRoads, cX9_mostRoads, 1, 1, 0, (Option.some Jvm.ClassFile.FieldType.int), xk_132, [])
def xk_133 : List xE := [(0, .aload_n 0, 1, []), (1, .invokespecial 13, 3, [3, 120, 0, 1, 0]), (4, .aload_n 0, 1, []), (5, .getfield 7, 3, [100, 1]), (8, .isub, 1, []), (9, .ireturn, 1, [])]
def xm_133 : xM := (yX9_pay, cX9_pay, 1, 1, 0, (Option.some Jvm.ClassFile.FieldType.int), xk_133, [])
def xk_134 : List xE := [(0, .aload_n 0, 1, []), (1, .aload_n 1, 1, []), (2, .putfield 18, 3, [10, 4]), (5, .aload_n 0, 1, []), (6, .aload_n 1, 1, []), (7, .iload_n 2, 1, []), (8, .invokevirtual 22, 3, [1, 95, 2, 1, 3, 16]), (11, .putfield 28, 3, [10, 5]), (14, .aload_n 0, 1, []), (15, .iload_n 3, 1, []), (16, .putfield 32, 3, [10, 6]), (19, .aload_n 0, 1, []), (20, .iload 4, 2, []), (22, .putfield 36, 3, [10, 7]), (25, .aload_n 0, 1, []), (26, .iload 5, 2, []), (28, .putfield 39, 3, [10, 8]), (31, .aload_n 0, 1, []), (32, .iconst 0, 1, []), (33, .putfield 42, 3, [10, 2]), (36, .aload_n 0, 1, []), (37, .iconst 0, 1, []), (38, .putfield 45, 3, [10, 3]), (41, .aload_n 0, 1, []), (42, .iload 4, 2, []), (44, .iconst 1, 1, []), (45, .iload 4, 2, []), (47, .ishl, 1, []), (48, .iconst 0, 1, []), (49, .iconst 0, 1, []), (50, .invokevirtual 48, 3, [1, 135, 10, 4, 0, 0]), (53, .aload_n 0, 1, []), (54, .getfield 42, 3, [10, 2]), (57, .ifCond .le 7, 3, [64]), (60, .iconst 1, 1, []), (61, .goto 4, 3, [65]), (64, .iconst 0, 1, []), (65, .ireturn, 1, [])]
def xm_134 : xM := (yX10_find, cX10_find, 6, 1, 0, (Option.some Jvm.ClassFile.FieldType.boolean), xk_134, [])
def xk_135 : List xE := [(0, .aload_n 0, 1, []), (1, .getfield 42, 3, [10, 2]), (4, .ifCond .le 13, 3, [17]), (7, .iload 4, 2, []), (9, .aload_n 0, 1, []), (10, .getfield 45, 3, [10, 3]), (13, .if_icmp .lt 4, 3, [17]), (16, .return_, 1, []), (17, .iload_n 1, 1, []), (18, .aload_n 0, 1, []), (19, .getfield 39, 3, [10, 8]), (22, .if_icmp .ne 29, 3, [51]), (25, .aload_n 0, 1, []), (26, .getfield 15, 3, [10, 1]), (29, .iconst 0, 1, []), (30, .aload_n 0, 1, []), (31, .getfield 9, 3, [10, 0]), (34, .iconst 0, 1, []), (35, .iload_n 3, 1, []), (36, .invokestatic 52, 3, [5]), (39, .aload_n 0, 1, []), (40, .iload_n 3, 1, []), (41, .putfield 42, 3, [10, 2]), (44, .aload_n 0, 1, []), (45, .iload 4, 2, []), (47, .putfield 45, 3, [10, 3]), (50, .return_, 1, []), (51, .aload_n 0, 1, []), (52, .getfield 28, 3, [10, 5]), (55, .ifnull 23, 3, [78]), (58, .iload_n 3, 1, []), (59, .aload_n 0, 1, []), (60, .getfield 28, 3, [10, 5]), (63, .invokevirtual 58, 3, [2, 4, 0, 1, 0]), (66, .if_icmp .ge 12, 3, [78]), (69, .iload_n 3, 1, []), (70, .aload_n 0, 1, []), (71, .getfield 15, 3, [10, 1]), (74, .arraylength, 1, []), (75, .if_icmp .lt 4, 3, [79]), (78, .return_, 1, []), (79, .aload_n 0, 1, []), (80, .getfield 28, 3, [10, 5]), (83, .aload_n 0, 1, []), (84, .getfield 32, 3, [10, 6]), (87, .iload_n 2, 1, []), (88, .aload_n 0, 1, []), (89, .getfield 18, 3, [10, 4]), (92, .getfield 64, 3, [2, 0]), (95, .invokevirtual 67, 3, [2, 0, 3, 1, 0]), (98, .istore 5, 2, []), (100, .iconst 0, 1, []), (101, .istore 6, 2, []), (103, .iload 6, 2, []), (105, .aload_n 0, 1, []), (106, .getfield 18, 3, [10, 4]), (109, .getfield 71, 3, [2, 1]), (112, .if_icmp .ge 119, 3, [231]), (115, .aload_n 0, 1, []), (116, .getfield 18, 3, [10, 4]), (119, .iload 6, 2, []), (121, .iload_n 1, 1, []), (122, .invokevirtual 73, 3, [1, 103, 2, 2, 1, 0]), (125, .istore 7, 2, []), (127, .iload 7, 2, []), (129, .ifCond .lt 96, 3, [225]), (132, .iload_n 2, 1, []), (133, .iload 7, 2, []), (135, .invokestatic 77, 3, [0, 167, 2, 1, 0]), (138, .ifCond .ne 87, 3, [225]), (141, .aload_n 0, 1, []), (142, .getfield 28, 3, [10, 5]), (145, .iload 6, 2, []), (147, .aload_n 0, 1, []), (148, .getfield 18, 3, [10, 4]), (151, .iload 6, 2, []), (153, .invokevirtual 81, 3, [1, 99, 2, 1, 1, 0]), (156, .iload 5, 2, []), (158, .invokevirtual 85, 3, [2, 1, 3, 1, 0]), (161, .ifCond .ne 6, 3, [167]), (164, .goto 61, 3, [225]), (167, .aload_n 0, 1, []), (168, .getfield 15, 3, [10, 1]), (171, .iload_n 3, 1, []), (172, .iload 6, 2, []), (174, .iastore, 1, []), (175, .aload_n 0, 1, []), (176, .getfield 28, 3, [10, 5]), (179, .iload 6, 2, []), (181, .aload_n 0, 1, []), (182, .getfield 18, 3, [10, 4]), (185, .getfield 89, 3, [2, 6]), (188, .iload 6, 2, []), (190, .iaload, 1, []), (191, .aload_n 0, 1, []), (192, .getfield 18, 3, [10, 4]), (195, .iload 6, 2, []), (197, .invokevirtual 81, 3, [1, 99, 2, 1, 1, 0]), (200, .invokevirtual 92, 3, [2, 3, 3, 1, 0]), (203, .istore 8, 2, []), (205, .aload_n 0, 1, []), (206, .iload 7, 2, []), (208, .iload_n 2, 1, []), (209, .iconst 1, 1, []), (210, .iload 7, 2, []), (212, .ishl, 1, []), (213, .ior, 1, []), (214, .iload_n 3, 1, []), (215, .iconst 1, 1, []), (216, .iadd, 1, []), (217, .iload 4, 2, []), (219, .iload 8, 2, []), (221, .iadd, 1, []), (222, .invokevirtual 48, 3, [1, 135, 10, 4, 0, 0]), (225, .iinc 6 1, 3, []), (228, .goto (-125), 3, [103]), (231, .return_, 1, [])]
def xm_135 : xM := (yX10_extend, cX10_extend, 9, 0, 0, (Option.none : Option Jvm.ClassFile.FieldType), xk_135, [(17, [5, 6, 7, 8]), (103, [7, 8])])
def xk_136 : List xE := [(0, .iconst 0, 1, []), (1, .istore_n 1, 1, []), (2, .iconst 0, 1, []), (3, .istore_n 2, 1, []), (4, .iload_n 2, 1, []), (5, .aload_n 0, 1, []), (6, .getfield 42, 3, [10, 2]), (9, .if_icmp .ge 26, 3, [35]), (12, .iload_n 1, 1, []), (13, .aload_n 0, 1, []), (14, .getfield 18, 3, [10, 4]), (17, .getfield 89, 3, [2, 6]), (20, .aload_n 0, 1, []), (21, .getfield 9, 3, [10, 0]), (24, .iload_n 2, 1, []), (25, .iaload, 1, []), (26, .iaload, 1, []), (27, .iadd, 1, []), (28, .istore_n 1, 1, []), (29, .iinc 2 1, 3, []), (32, .goto (-28), 3, [4]), (35, .iload_n 1, 1, []), (36, .ireturn, 1, [])]
def xm_136 : xM := (yX10_length, cX10_length, 3, 1, 0, (Option.some Jvm.ClassFile.FieldType.int), xk_136, [(4, [])])
def xk_137 : List xE := [(0, .aload_n 0, 1, []), (1, .getfield 36, 3, [10, 7]), (4, .istore_n 1, 1, []), (5, .iconst 1, 1, []), (6, .aload_n 0, 1, []), (7, .getfield 36, 3, [10, 7]), (10, .ishl, 1, []), (11, .istore_n 2, 1, []), (12, .iconst 0, 1, []), (13, .istore_n 3, 1, []), (14, .iload_n 3, 1, []), (15, .aload_n 0, 1, []), (16, .getfield 42, 3, [10, 2]), (19, .if_icmp .ge 91, 3, [110]), (22, .aload_n 0, 1, []), (23, .getfield 28, 3, [10, 5]), (26, .ifnull 84, 3, [110]), (29, .aload_n 0, 1, []), (30, .getfield 9, 3, [10, 0]), (33, .iload_n 3, 1, []), (34, .iaload, 1, []), (35, .istore 4, 2, []), (37, .aload_n 0, 1, []), (38, .getfield 28, 3, [10, 5]), (41, .iload 4, 2, []), (43, .aload_n 0, 1, []), (44, .getfield 28, 3, [10, 5]), (47, .aload_n 0, 1, []), (48, .getfield 32, 3, [10, 6]), (51, .iload_n 2, 1, []), (52, .aload_n 0, 1, []), (53, .getfield 18, 3, [10, 4]), (56, .getfield 64, 3, [2, 0]), (59, .invokevirtual 67, 3, [2, 0, 3, 1, 0]), (62, .invokevirtual 95, 3, [2, 2, 2, 1, 0]), (65, .i2l, 1, []), (66, .lstore 5, 2, []), (68, .aload_n 0, 1, []), (69, .getfield 18, 3, [10, 4]), (72, .dup, 1, []), (73, .getfield 98, 3, [2, 3]), (76, .lload 5, 2, []), (78, .iconst 4, 1, []), (79, .iload 4, 2, []), (81, .imul, 1, []), (82, .lshl, 1, []), (83, .lor, 1, []), (84, .putfield 98, 3, [2, 3]), (87, .aload_n 0, 1, []), (88, .getfield 18, 3, [10, 4]), (91, .iload 4, 2, []), (93, .iload_n 1, 1, []), (94, .invokevirtual 73, 3, [1, 103, 2, 2, 1, 0]), (97, .istore_n 1, 1, []), (98, .iload_n 2, 1, []), (99, .iconst 1, 1, []), (100, .iload_n 1, 1, []), (101, .ishl, 1, []), (102, .ior, 1, []), (103, .istore_n 2, 1, []), (104, .iinc 3 1, 3, []), (107, .goto (-93), 3, [14]), (110, .return_, 1, [])]
def xm_137 : xM := (yX10_leaveNicks, cX10_leaveNicks, 7, 0, 0, (Option.none : Option Jvm.ClassFile.FieldType), xk_137, [(14, [4, 5, 6])])
def xk_138 : List xE := [(0, .aload_n 0, 1, []), (1, .iload_n 1, 1, []), (2, .iconst 1, 1, []), (3, .invokevirtual 46, 3, [1, 171, 11, 2, 1, 0]), (6, .istore_n 2, 1, []), (7, .iload_n 2, 1, []), (8, .ifCond .eq 5, 3, [13]), (11, .iload_n 2, 1, []), (12, .ireturn, 1, []), (13, .aload_n 0, 1, []), (14, .getfield 41, 3, [11, 7]), (17, .iload_n 1, 1, []), (18, .aaload, 1, []), (19, .astore_n 3, 1, []), (20, .aload_n 3, 1, []), (21, .invokestatic 50, 3, [0, 180, 1, 1, 0]), (24, .istore 4, 2, []), (26, .iload 4, 2, []), (28, .ifCond .lt 10, 3, [38]), (31, .sipush (-1000), 3, []), (34, .iload 4, 2, []), (36, .isub, 1, []), (37, .ireturn, 1, []), (38, .aload_n 0, 1, []), (39, .getfield 16, 3, [11, 1]), (42, .aload_n 0, 1, []), (43, .getfield 10, 3, [11, 0]), (46, .invokevirtual 54, 3, [1, 91, 2, 1, 0, 0]), (49, .iconst 0, 1, []), (50, .istore 5, 2, []), (52, .iconst 0, 1, []), (53, .istore 6, 2, []), (55, .iload 6, 2, []), (57, .aload_n 3, 1, []), (58, .getfield 58, 3, [7, 2]), (61, .if_icmp .ge 42, 3, [103]), (64, .aload_n 0, 1, []), (65, .aload_n 3, 1, []), (66, .iload 6, 2, []), (68, .invokevirtual 62, 3, [1, 181, 11, 2, 1, 0]), (71, .ifCond .ne 10, 3, [81]), (74, .sipush (-2000), 3, []), (77, .iload 6, 2, []), (79, .isub, 1, []), (80, .ireturn, 1, []), (81, .iinc 5 1, 3, []), (84, .iload 6, 2, []), (86, .aload_n 3, 1, []), (87, .iload 6, 2, []), (89, .invokevirtual 66, 3, [1, 126, 7, 1, 1, 0]), (92, .invokestatic 70, 3, [0, 179, 1, 1, 0]), (95, .iconst 2, 1, []), (96, .iadd, 1, []), (97, .iadd, 1, []), (98, .istore 6, 2, []), (100, .goto (-45), 3, [55]), (103, .aload_n 0, 1, []), (104, .getfield 10, 3, [11, 0]), (107, .aload_n 0, 1, []), (108, .getfield 16, 3, [11, 1]), (111, .invokevirtual 54, 3, [1, 91, 2, 1, 0, 0]), (114, .iload 5, 2, []), (116, .ireturn, 1, [])]
def xm_138 : xM := (yX11_land, cX11_land, 7, 1, 0, (Option.some Jvm.ClassFile.FieldType.int), xk_138, [(55, [1, 2, 4])])
def xk_139 : List xE := [(0, .aload_n 0, 1, []), (1, .getfield 10, 3, [11, 0]), (4, .iload_n 1, 1, []), (5, .invokevirtual 73, 3, [1, 94, 2, 1, 1, 0]), (8, .ifCond .ne 5, 3, [13]), (11, .iconst (-1), 1, []), (12, .ireturn, 1, []), (13, .iload_n 2, 1, []), (14, .tableswitch 69 0 3 #[30, 40, 50, 60], 30, [83, 0, 44, 1, 54, 2, 64, 3, 74]), (44, .aload_n 0, 1, []), (45, .getfield 10, 3, [11, 0]), (48, .getfield 77, 3, [2, 4]), (51, .iload_n 1, 1, []), (52, .iaload, 1, []), (53, .ireturn, 1, []), (54, .aload_n 0, 1, []), (55, .getfield 10, 3, [11, 0]), (58, .getfield 80, 3, [2, 5]), (61, .iload_n 1, 1, []), (62, .iaload, 1, []), (63, .ireturn, 1, []), (64, .aload_n 0, 1, []), (65, .getfield 10, 3, [11, 0]), (68, .getfield 83, 3, [2, 6]), (71, .iload_n 1, 1, []), (72, .iaload, 1, []), (73, .ireturn, 1, []), (74, .aload_n 0, 1, []), (75, .getfield 10, 3, [11, 0]), (78, .iload_n 1, 1, []), (79, .invokevirtual 86, 3, [1, 99, 2, 1, 1, 0]), (82, .ireturn, 1, []), (83, .iconst (-1), 1, []), (84, .ireturn, 1, [])]
def xm_139 : xM := (yX11_road, cX11_road, 3, 1, 0, (Option.some Jvm.ClassFile.FieldType.int), xk_139, [])
def xk_140 : List xE := [(0, .aload_n 0, 1, []), (1, .getfield 10, 3, [11, 0]), (4, .iload_n 1, 1, []), (5, .invokevirtual 89, 3, [1, 95, 2, 1, 3, 16]), (8, .astore_n 3, 1, []), (9, .aload_n 3, 1, []), (10, .ifnull 11, 3, [21]), (13, .iload_n 2, 1, []), (14, .iconst 2, 1, []), (15, .invokestatic 93, 3, [0, 166, 2, 1, 0]), (18, .ifCond .ne 5, 3, [23]), (21, .iconst (-1), 1, []), (22, .ireturn, 1, []), (23, .iload_n 2, 1, []), (24, .ifCond .ne 10, 3, [34]), (27, .aload_n 3, 1, []), (28, .getfield 97, 3, [100, 0]), (31, .goto 7, 3, [38]), (34, .aload_n 3, 1, []), (35, .getfield 100, 3, [100, 1]), (38, .ireturn, 1, [])]
def xm_140 : xM := (yX11_carrier, cX11_carrier, 4, 1, 0, (Option.some Jvm.ClassFile.FieldType.int), xk_140, [])
def xk_141 : List xE := [(0, .aload_n 0, 1, []), (1, .iload_n 1, 1, []), (2, .invokevirtual 103, 3, [1, 172, 11, 1, 1, 0]), (5, .istore_n 2, 1, []), (6, .iload_n 2, 1, []), (7, .ifCond .eq 5, 3, [12]), (10, .iload_n 2, 1, []), (11, .ireturn, 1, []), (12, .aload_n 0, 1, []), (13, .getfield 10, 3, [11, 0]), (16, .aload_n 0, 1, []), (17, .getfield 35, 3, [11, 6]), (20, .iload_n 1, 1, []), (21, .aaload, 1, []), (22, .invokevirtual 106, 3, [1, 98, 2, 1, 1, 0]), (25, .ifCond .eq 15, 3, [40]), (28, .aload_n 0, 1, []), (29, .getfield 10, 3, [11, 0]), (32, .getfield 110, 3, [2, 2]), (35, .iconst 1, 1, []), (36, .isub, 1, []), (37, .goto 5, 3, [42]), (40, .bipush (-2), 2, []), (42, .ireturn, 1, [])]
def xm_141 : xM := (yX11_hires, cX11_hires, 3, 1, 0, (Option.some Jvm.ClassFile.FieldType.int), xk_141, [])
def xk_142 : List xE := [(0, .aload_n 0, 1, []), (1, .getfield 10, 3, [11, 0]), (4, .iload_n 1, 1, []), (5, .invokevirtual 73, 3, [1, 94, 2, 1, 1, 0]), (8, .ifCond .eq 19, 3, [27]), (11, .iload_n 2, 1, []), (12, .iconst 4, 1, []), (13, .invokestatic 93, 3, [0, 166, 2, 1, 0]), (16, .ifCond .eq 11, 3, [27]), (19, .iload_n 3, 1, []), (20, .iconst 2, 1, []), (21, .invokestatic 93, 3, [0, 166, 2, 1, 0]), (24, .ifCond .ne 5, 3, [29]), (27, .iconst (-1), 1, []), (28, .ireturn, 1, []), (29, .aload_n 0, 1, []), (30, .getfield 10, 3, [11, 0]), (33, .iload_n 1, 1, []), (34, .iload_n 2, 1, []), (35, .invokevirtual 113, 3, [1, 100, 2, 2, 1, 0]), (38, .iload_n 3, 1, []), (39, .iconst 1, 1, []), (40, .if_icmp .ne 7, 3, [47]), (43, .iconst 1, 1, []), (44, .goto 4, 3, [48]), (47, .iconst 0, 1, []), (48, .if_icmp .eq 5, 3, [53]), (51, .iconst 0, 1, []), (52, .ireturn, 1, []), (53, .aload_n 0, 1, []), (54, .getfield 10, 3, [11, 0]), (57, .dup, 1, []), (58, .getfield 116, 3, [2, 3]), (61, .iload_n 1, 1, []), (62, .iload_n 2, 1, []), (63, .invokestatic 120, 3, [0, 168, 2, 2, 0]), (66, .lxor, 1, []), (67, .putfield 116, 3, [2, 3]), (70, .iconst 1, 1, []), (71, .ireturn, 1, [])]
def xm_142 : xM := (yX11_nick, cX11_nick, 4, 1, 0, (Option.some Jvm.ClassFile.FieldType.int), xk_142, [])
def xk_143 : List xE := [(0, .aload_n 0, 1, []), (1, .getfield 10, 3, [11, 0]), (4, .iload_n 1, 1, []), (5, .iload_n 2, 1, []), (6, .iload_n 3, 1, []), (7, .iload 4, 2, []), (9, .invokestatic 124, 3, [0, 170, 5, 1, 0]), (12, .ifCond .eq 12, 3, [24]), (15, .iload 5, 2, []), (17, .iconst 3, 1, []), (18, .invokestatic 93, 3, [0, 166, 2, 1, 0]), (21, .ifCond .ne 5, 3, [26]), (24, .iconst (-1), 1, []), (25, .ireturn, 1, []), (26, .aload_n 0, 1, []), (27, .getfield 25, 3, [11, 4]), (30, .aload_n 0, 1, []), (31, .getfield 10, 3, [11, 0]), (34, .iload_n 1, 1, []), (35, .iload_n 2, 1, []), (36, .iload_n 3, 1, []), (37, .iload 4, 2, []), (39, .invokevirtual 128, 3, [1, 134, 10, 5, 1, 0]), (42, .ifCond .ne 6, 3, [48]), (45, .bipush (-4), 2, []), (47, .ireturn, 1, []), (48, .iload 5, 2, []), (50, .ifCond .ne 11, 3, [61]), (53, .aload_n 0, 1, []), (54, .getfield 25, 3, [11, 4]), (57, .getfield 131, 3, [10, 3]), (60, .ireturn, 1, []), (61, .iload 5, 2, []), (63, .iconst 1, 1, []), (64, .if_icmp .ne 13, 3, [77]), (67, .aload_n 0, 1, []), (68, .getfield 25, 3, [11, 4]), (71, .getfield 134, 3, [10, 2]), (74, .goto 10, 3, [84]), (77, .aload_n 0, 1, []), (78, .getfield 25, 3, [11, 4]), (81, .invokevirtual 135, 3, [1, 136, 10, 0, 1, 0]), (84, .ireturn, 1, [])]
def xm_143 : xM := (yX11_way, cX11_way, 6, 1, 0, (Option.some Jvm.ClassFile.FieldType.int), xk_143, [])
def xk_144 : List xE := [(0, .aload_n 0, 1, []), (1, .getfield 10, 3, [11, 0]), (4, .iload_n 1, 1, []), (5, .iload_n 2, 1, []), (6, .iload_n 3, 1, []), (7, .iload 4, 2, []), (9, .invokestatic 124, 3, [0, 170, 5, 1, 0]), (12, .ifCond .eq 8, 3, [20]), (15, .iload 5, 2, []), (17, .ifCond .ge 5, 3, [22]), (20, .iconst (-1), 1, []), (21, .ireturn, 1, []), (22, .aload_n 0, 1, []), (23, .getfield 25, 3, [11, 4]), (26, .aload_n 0, 1, []), (27, .getfield 10, 3, [11, 0]), (30, .iload_n 1, 1, []), (31, .iload_n 2, 1, []), (32, .iload_n 3, 1, []), (33, .iload 4, 2, []), (35, .invokevirtual 128, 3, [1, 134, 10, 5, 1, 0]), (38, .ifCond .eq 15, 3, [53]), (41, .iload 5, 2, []), (43, .aload_n 0, 1, []), (44, .getfield 25, 3, [11, 4]), (47, .getfield 134, 3, [10, 2]), (50, .if_icmp .lt 6, 3, [56]), (53, .bipush (-4), 2, []), (55, .ireturn, 1, []), (56, .aload_n 0, 1, []), (57, .getfield 25, 3, [11, 4]), (60, .getfield 139, 3, [10, 0]), (63, .iload 5, 2, []), (65, .iaload, 1, []), (66, .ireturn, 1, [])]
def xm_144 : xM := (yX11_step, cX11_step, 6, 1, 0, (Option.some Jvm.ClassFile.FieldType.int), xk_144, [])
def xk_145 : List xE := [(0, .aload_n 0, 1, []), (1, .getfield 10, 3, [11, 0]), (4, .iload_n 1, 1, []), (5, .iload_n 2, 1, []), (6, .iload_n 3, 1, []), (7, .iload 4, 2, []), (9, .invokestatic 124, 3, [0, 170, 5, 1, 0]), (12, .ifCond .ne 5, 3, [17]), (15, .iconst (-1), 1, []), (16, .ireturn, 1, []), (17, .aload_n 0, 1, []), (18, .aload_n 0, 1, []), (19, .getfield 10, 3, [11, 0]), (22, .iload_n 1, 1, []), (23, .iload_n 2, 1, []), (24, .iload_n 3, 1, []), (25, .iload 4, 2, []), (27, .invokevirtual 142, 3, [1, 174, 11, 5, 1, 0]), (30, .istore 5, 2, []), (32, .iload 5, 2, []), (34, .bipush (-4), 2, []), (36, .if_icmp .ne 8, 3, [44]), (39, .bipush (-3), 2, []), (41, .goto 5, 3, [46]), (44, .iload 5, 2, []), (46, .ireturn, 1, [])]
def xm_145 : xM := (yX11_go, cX11_go, 6, 1, 0, (Option.some Jvm.ClassFile.FieldType.int), xk_145, [])
def xk_146 : List xE := [(0, .aload_n 0, 1, []), (1, .iload_n 1, 1, []), (2, .iload_n 2, 1, []), (3, .iload_n 3, 1, []), (4, .invokevirtual 146, 3, [1, 169, 11, 3, 1, 0]), (7, .ifCond .ne 5, 3, [12]), (10, .iconst (-1), 1, []), (11, .ireturn, 1, []), (12, .aload_n 0, 1, []), (13, .getfield 10, 3, [11, 0]), (16, .iload_n 1, 1, []), (17, .iload_n 2, 1, []), (18, .iload_n 3, 1, []), (19, .iconst (-1), 1, []), (20, .invokevirtual 150, 3, [1, 104, 2, 4, 1, 0]), (23, .ireturn, 1, [])]
def xm_146 : xM := (yX11_far, cX11_far, 4, 1, 0, (Option.some Jvm.ClassFile.FieldType.int), xk_146, [])
def xk_147 : List xE := [(0, .aload_n 0, 1, []), (1, .iload_n 1, 1, []), (2, .iload_n 2, 1, []), (3, .iload_n 3, 1, []), (4, .invokevirtual 146, 3, [1, 169, 11, 3, 1, 0]), (7, .ifCond .eq 12, 3, [19]), (10, .iload 4, 2, []), (12, .iconst 2, 1, []), (13, .invokestatic 93, 3, [0, 166, 2, 1, 0]), (16, .ifCond .ne 5, 3, [21]), (19, .iconst (-1), 1, []), (20, .ireturn, 1, []), (21, .aload_n 0, 1, []), (22, .getfield 10, 3, [11, 0]), (25, .iload_n 1, 1, []), (26, .invokevirtual 154, 3, [1, 106, 2, 1, 0, 0]), (29, .iload 4, 2, []), (31, .ifCond .ne 18, 3, [49]), (34, .aload_n 0, 1, []), (35, .getfield 10, 3, [11, 0]), (38, .iload_n 2, 1, []), (39, .iload_n 3, 1, []), (40, .iload_n 2, 1, []), (41, .iload_n 2, 1, []), (42, .iconst 0, 1, []), (43, .invokevirtual 158, 3, [1, 107, 2, 5, 1, 0]), (46, .goto 12, 3, [58]), (49, .aload_n 0, 1, []), (50, .getfield 10, 3, [11, 0]), (53, .iload_n 2, 1, []), (54, .iload_n 3, 1, []), (55, .invokevirtual 162, 3, [1, 108, 2, 2, 1, 0]), (58, .ireturn, 1, [])]
def xm_147 : xM := (yX11_many, cX11_many, 5, 1, 0, (Option.some Jvm.ClassFile.FieldType.int), xk_147, [])
def xk_148 : List xE := [(0, .iload_n 1, 1, []), (1, .iconst 4, 1, []), (2, .invokestatic 93, 3, [0, 166, 2, 1, 0]), (5, .ifCond .eq 23, 3, [28]), (8, .aload_n 0, 1, []), (9, .getfield 10, 3, [11, 0]), (12, .iload_n 2, 1, []), (13, .invokevirtual 166, 3, [1, 92, 2, 1, 1, 0]), (16, .ifCond .eq 12, 3, [28]), (19, .iload 4, 2, []), (21, .iconst 2, 1, []), (22, .invokestatic 93, 3, [0, 166, 2, 1, 0]), (25, .ifCond .ne 5, 3, [30]), (28, .iconst (-1), 1, []), (29, .ireturn, 1, []), (30, .iload_n 3, 1, []), (31, .iconst 1, 1, []), (32, .aload_n 0, 1, []), (33, .getfield 10, 3, [11, 0]), (36, .getfield 169, 3, [2, 0]), (39, .ishl, 1, []), (40, .invokestatic 93, 3, [0, 166, 2, 1, 0]), (43, .ifCond .eq 11, 3, [54]), (46, .iload_n 3, 1, []), (47, .iload_n 2, 1, []), (48, .invokestatic 172, 3, [0, 167, 2, 1, 0]), (51, .ifCond .eq 5, 3, [56]), (54, .iconst (-1), 1, []), (55, .ireturn, 1, []), (56, .aload_n 0, 1, []), (57, .getfield 10, 3, [11, 0]), (60, .iload_n 1, 1, []), (61, .invokevirtual 154, 3, [1, 106, 2, 1, 0, 0]), (64, .aload_n 0, 1, []), (65, .getfield 10, 3, [11, 0]), (68, .iload_n 2, 1, []), (69, .iload_n 3, 1, []), (70, .invokevirtual 175, 3, [1, 109, 2, 2, 1, 0]), (73, .istore 5, 2, []), (75, .iload 4, 2, []), (77, .ifCond .ne 11, 3, [88]), (80, .iload 5, 2, []), (82, .invokestatic 178, 3, [0, 77, 1, 1, 0]), (85, .goto 5, 3, [90]), (88, .iload 5, 2, []), (90, .ireturn, 1, [])]
def xm_148 : xM := (yX11_served, cX11_served, 6, 1, 0, (Option.some Jvm.ClassFile.FieldType.int), xk_148, [])
def xk_149 : List xE := [(0, .aload_n 0, 1, []), (1, .iload_n 1, 1, []), (2, .iload_n 2, 1, []), (3, .iload_n 3, 1, []), (4, .invokevirtual 146, 3, [1, 169, 11, 3, 1, 0]), (7, .ifCond .eq 12, 3, [19]), (10, .iload 4, 2, []), (12, .iconst 2, 1, []), (13, .invokestatic 93, 3, [0, 166, 2, 1, 0]), (16, .ifCond .ne 5, 3, [21]), (19, .iconst (-1), 1, []), (20, .ireturn, 1, []), (21, .aload_n 0, 1, []), (22, .getfield 10, 3, [11, 0]), (25, .iload_n 1, 1, []), (26, .invokevirtual 154, 3, [1, 106, 2, 1, 0, 0]), (29, .bipush (-4), 2, []), (31, .istore 5, 2, []), (33, .bipush (-4), 2, []), (35, .istore 6, 2, []), (37, .iconst 0, 1, []), (38, .istore 7, 2, []), (40, .iload 7, 2, []), (42, .aload_n 0, 1, []), (43, .getfield 10, 3, [11, 0]), (46, .getfield 183, 3, [2, 1]), (49, .if_icmp .ge 79, 3, [128]), (52, .aload_n 0, 1, []), (53, .getfield 10, 3, [11, 0]), (56, .iload 7, 2, []), (58, .iload_n 1, 1, []), (59, .invokevirtual 113, 3, [1, 100, 2, 2, 1, 0]), (62, .ifCond .ne 6, 3, [68]), (65, .goto 57, 3, [122]), (68, .aload_n 0, 1, []), (69, .getfield 10, 3, [11, 0]), (72, .iload_n 2, 1, []), (73, .iload_n 3, 1, []), (74, .aload_n 0, 1, []), (75, .getfield 10, 3, [11, 0]), (78, .getfield 77, 3, [2, 4]), (81, .iload 7, 2, []), (83, .iaload, 1, []), (84, .aload_n 0, 1, []), (85, .getfield 10, 3, [11, 0]), (88, .getfield 80, 3, [2, 5]), (91, .iload 7, 2, []), (93, .iaload, 1, []), (94, .iconst (-1), 1, []), (95, .invokevirtual 158, 3, [1, 107, 2, 5, 1, 0]), (98, .istore 8, 2, []), (100, .iload 5, 2, []), (102, .bipush (-4), 2, []), (104, .if_icmp .eq 10, 3, [114]), (107, .iload 8, 2, []), (109, .iload 6, 2, []), (111, .if_icmp .ge 11, 3, [122]), (114, .iload 7, 2, []), (116, .istore 5, 2, []), (118, .iload 8, 2, []), (120, .istore 6, 2, []), (122, .iinc 7 1, 3, []), (125, .goto (-85), 3, [40]), (128, .iload 4, 2, []), (130, .ifCond .ne 8, 3, [138]), (133, .iload 5, 2, []), (135, .goto 5, 3, [140]), (138, .iload 6, 2, []), (140, .ireturn, 1, [])]
def xm_149 : xM := (yX11_spite, cX11_spite, 9, 1, 0, (Option.some Jvm.ClassFile.FieldType.int), xk_149, [(40, [8])])
def xk_150 : List xE := [(0, .aload_n 0, 1, []), (1, .getfield 10, 3, [11, 0]), (4, .iload_n 1, 1, []), (5, .invokevirtual 73, 3, [1, 94, 2, 1, 1, 0]), (8, .ifCond .eq 14, 3, [22]), (11, .aload_n 0, 1, []), (12, .iload_n 2, 1, []), (13, .iload_n 3, 1, []), (14, .iload 4, 2, []), (16, .invokevirtual 146, 3, [1, 169, 11, 3, 1, 0]), (19, .ifCond .ne 5, 3, [24]), (22, .iconst (-1), 1, []), (23, .ireturn, 1, []), (24, .aload_n 0, 1, []), (25, .getfield 10, 3, [11, 0]), (28, .iload_n 2, 1, []), (29, .iload_n 3, 1, []), (30, .iload 4, 2, []), (32, .iconst (-1), 1, []), (33, .invokevirtual 150, 3, [1, 104, 2, 4, 1, 0]), (36, .istore 5, 2, []), (38, .iload 5, 2, []), (40, .bipush (-4), 2, []), (42, .if_icmp .ne 5, 3, [47]), (45, .iconst 0, 1, []), (46, .ireturn, 1, []), (47, .aload_n 0, 1, []), (48, .getfield 10, 3, [11, 0]), (51, .iload_n 2, 1, []), (52, .iload_n 3, 1, []), (53, .iload 4, 2, []), (55, .iload_n 1, 1, []), (56, .invokevirtual 150, 3, [1, 104, 2, 4, 1, 0]), (59, .istore 6, 2, []), (61, .iload 6, 2, []), (63, .bipush (-4), 2, []), (65, .if_icmp .ne 8, 3, [73]), (68, .bipush 99, 2, []), (70, .goto 8, 3, [78]), (73, .iload 6, 2, []), (75, .iload 5, 2, []), (77, .isub, 1, []), (78, .ireturn, 1, [])]
def xm_150 : xM := (yX11_worth, cX11_worth, 7, 1, 0, (Option.some Jvm.ClassFile.FieldType.int), xk_150, [])
def xk_151 : List xE := [(0, .aload_n 0, 1, []), (1, .iload_n 1, 1, []), (2, .iload_n 2, 1, []), (3, .iload_n 3, 1, []), (4, .invokevirtual 146, 3, [1, 169, 11, 3, 1, 0]), (7, .ifCond .eq 12, 3, [19]), (10, .iload 4, 2, []), (12, .iconst 2, 1, []), (13, .invokestatic 93, 3, [0, 166, 2, 1, 0]), (16, .ifCond .ne 5, 3, [21]), (19, .iconst (-1), 1, []), (20, .ireturn, 1, []), (21, .aload_n 0, 1, []), (22, .getfield 10, 3, [11, 0]), (25, .iload_n 1, 1, []), (26, .invokevirtual 154, 3, [1, 106, 2, 1, 0, 0]), (29, .bipush (-4), 2, []), (31, .istore 5, 2, []), (33, .bipush (-4), 2, []), (35, .istore 6, 2, []), (37, .iconst 0, 1, []), (38, .istore 7, 2, []), (40, .iload 7, 2, []), (42, .aload_n 0, 1, []), (43, .getfield 10, 3, [11, 0]), (46, .getfield 169, 3, [2, 0]), (49, .if_icmp .ge 70, 3, [119]), (52, .iload 7, 2, []), (54, .iconst 1, 1, []), (55, .iadd, 1, []), (56, .istore 8, 2, []), (58, .iload 8, 2, []), (60, .aload_n 0, 1, []), (61, .getfield 10, 3, [11, 0]), (64, .getfield 169, 3, [2, 0]), (67, .if_icmp .ge 46, 3, [113]), (70, .aload_n 0, 1, []), (71, .getfield 10, 3, [11, 0]), (74, .iload_n 2, 1, []), (75, .iload_n 3, 1, []), (76, .iload 7, 2, []), (78, .iload 8, 2, []), (80, .iconst 1, 1, []), (81, .invokevirtual 158, 3, [1, 107, 2, 5, 1, 0]), (84, .istore 9, 2, []), (86, .iload 9, 2, []), (88, .iload 6, 2, []), (90, .if_icmp .le 17, 3, [107]), (93, .bipush 10, 2, []), (95, .iload 7, 2, []), (97, .imul, 1, []), (98, .iload 8, 2, []), (100, .iadd, 1, []), (101, .istore 5, 2, []), (103, .iload 9, 2, []), (105, .istore 6, 2, []), (107, .iinc 8 1, 3, []), (110, .goto (-52), 3, [58]), (113, .iinc 7 1, 3, []), (116, .goto (-76), 3, [40]), (119, .iload 4, 2, []), (121, .ifCond .ne 8, 3, [129]), (124, .iload 5, 2, []), (126, .goto 5, 3, [131]), (129, .iload 6, 2, []), (131, .ireturn, 1, [])]
def xm_151 : xM := (yX11_newly, cX11_newly, 10, 1, 0, (Option.some Jvm.ClassFile.FieldType.int), xk_151, [(40, [1, 8, 9]), (58, [1, 9])])
def xk_152 : List xE := [(0, .iload_n 1, 1, []), (1, .iconst 4, 1, []), (2, .invokestatic 93, 3, [0, 166, 2, 1, 0]), (5, .ifCond .eq 14, 3, [19]), (8, .aload_n 0, 1, []), (9, .getfield 10, 3, [11, 0]), (12, .iload_n 2, 1, []), (13, .invokevirtual 166, 3, [1, 92, 2, 1, 1, 0]), (16, .ifCond .ne 5, 3, [21]), (19, .iconst (-1), 1, []), (20, .ireturn, 1, []), (21, .bipush (-4), 2, []), (23, .istore_n 3, 1, []), (24, .iconst 0, 1, []), (25, .istore 4, 2, []), (27, .iload 4, 2, []), (29, .aload_n 0, 1, []), (30, .getfield 10, 3, [11, 0]), (33, .getfield 183, 3, [2, 1]), (36, .if_icmp .ge 101, 3, [137]), (39, .aload_n 0, 1, []), (40, .getfield 10, 3, [11, 0]), (43, .iload 4, 2, []), (45, .iload_n 2, 1, []), (46, .invokevirtual 185, 3, [1, 103, 2, 2, 1, 0]), (49, .istore 5, 2, []), (51, .iload 5, 2, []), (53, .ifCond .lt 78, 3, [131]), (56, .aload_n 0, 1, []), (57, .getfield 10, 3, [11, 0]), (60, .iload 4, 2, []), (62, .iload_n 1, 1, []), (63, .invokevirtual 113, 3, [1, 100, 2, 2, 1, 0]), (66, .ifCond .ne 6, 3, [72]), (69, .goto 62, 3, [131]), (72, .aload_n 0, 1, []), (73, .getfield 10, 3, [11, 0]), (76, .iload_n 1, 1, []), (77, .iload 5, 2, []), (79, .iload_n 2, 1, []), (80, .iload 4, 2, []), (82, .invokevirtual 150, 3, [1, 104, 2, 4, 1, 0]), (85, .istore 6, 2, []), (87, .iload 6, 2, []), (89, .bipush (-4), 2, []), (91, .if_icmp .eq 40, 3, [131]), (94, .iload_n 3, 1, []), (95, .bipush (-4), 2, []), (97, .if_icmp .eq 20, 3, [117]), (100, .aload_n 0, 1, []), (101, .getfield 10, 3, [11, 0]), (104, .getfield 83, 3, [2, 6]), (107, .iload 4, 2, []), (109, .iaload, 1, []), (110, .iload 6, 2, []), (112, .iadd, 1, []), (113, .iload_n 3, 1, []), (114, .if_icmp .ge 17, 3, [131]), (117, .aload_n 0, 1, []), (118, .getfield 10, 3, [11, 0]), (121, .getfield 83, 3, [2, 6]), (124, .iload 4, 2, []), (126, .iaload, 1, []), (127, .iload 6, 2, []), (129, .iadd, 1, []), (130, .istore_n 3, 1, []), (131, .iinc 4 1, 3, []), (134, .goto (-107), 3, [27]), (137, .iload_n 3, 1, []), (138, .ireturn, 1, [])]
def xm_152 : xM := (yX11_round, cX11_round, 7, 1, 0, (Option.some Jvm.ClassFile.FieldType.int), xk_152, [(27, [5, 6])])
def xk_153 : List xE := [(0, .aload_n 0, 1, []), (1, .getfield 10, 3, [11, 0]), (4, .iload_n 1, 1, []), (5, .iload_n 2, 1, []), (6, .iload_n 3, 1, []), (7, .iload 4, 2, []), (9, .invokestatic 124, 3, [0, 170, 5, 1, 0]), (12, .ifCond .ne 5, 3, [17]), (15, .iconst (-1), 1, []), (16, .ireturn, 1, []), (17, .aload_n 0, 1, []), (18, .getfield 16, 3, [11, 1]), (21, .aload_n 0, 1, []), (22, .getfield 10, 3, [11, 0]), (25, .invokevirtual 54, 3, [1, 91, 2, 1, 0, 0]), (28, .iconst 0, 1, []), (29, .istore 5, 2, []), (31, .iload 5, 2, []), (33, .bipush 9, 2, []), (35, .if_icmp .ge 27, 3, [62]), (38, .aload_n 0, 1, []), (39, .aload_n 0, 1, []), (40, .getfield 16, 3, [11, 1]), (43, .iload_n 1, 1, []), (44, .iload_n 2, 1, []), (45, .iload_n 3, 1, []), (46, .iload 4, 2, []), (48, .invokevirtual 142, 3, [1, 174, 11, 5, 1, 0]), (51, .bipush (-4), 2, []), (53, .if_icmp .eq 9, 3, [62]), (56, .iinc 5 1, 3, []), (59, .goto (-28), 3, [31]), (62, .iload 5, 2, []), (64, .ireturn, 1, [])]
def xm_153 : xM := (yX11_often, cX11_often, 6, 1, 0, (Option.some Jvm.ClassFile.FieldType.int), xk_153, [(31, [])])
def xk_154 : List xE := [(0, .aload_n 0, 1, []), (1, .iload_n 1, 1, []), (2, .iload_n 2, 1, []), (3, .invokevirtual 188, 3, [1, 173, 11, 2, 1, 0]), (6, .istore_n 3, 1, []), (7, .iload_n 3, 1, []), (8, .ifCond .eq 5, 3, [13]), (11, .iload_n 3, 1, []), (12, .ireturn, 1, []), (13, .aload_n 0, 1, []), (14, .getfield 16, 3, [11, 1]), (17, .aload_n 0, 1, []), (18, .getfield 10, 3, [11, 0]), (21, .invokevirtual 54, 3, [1, 91, 2, 1, 0, 0]), (24, .iconst 0, 1, []), (25, .istore 4, 2, []), (27, .iconst 0, 1, []), (28, .istore 5, 2, []), (30, .iconst 0, 1, []), (31, .istore 6, 2, []), (33, .iload 6, 2, []), (35, .aload_n 0, 1, []), (36, .getfield 41, 3, [11, 7]), (39, .iload_n 1, 1, []), (40, .aaload, 1, []), (41, .getfield 58, 3, [7, 2]), (44, .iconst 4, 1, []), (45, .idiv, 1, []), (46, .if_icmp .ge 40, 3, [86]), (49, .aload_n 0, 1, []), (50, .aload_n 0, 1, []), (51, .getfield 41, 3, [11, 7]), (54, .iload_n 1, 1, []), (55, .aaload, 1, []), (56, .iload 6, 2, []), (58, .invokevirtual 191, 3, [1, 175, 11, 2, 1, 0]), (61, .istore 7, 2, []), (63, .iload 7, 2, []), (65, .bipush (-4), 2, []), (67, .if_icmp .eq 13, 3, [80]), (70, .iinc 4 1, 3, []), (73, .iload 5, 2, []), (75, .iload 7, 2, []), (77, .iadd, 1, []), (78, .istore 5, 2, []), (80, .iinc 6 1, 3, []), (83, .goto (-50), 3, [33]), (86, .iload_n 2, 1, []), (87, .ifCond .ne 8, 3, [95]), (90, .iload 4, 2, []), (92, .goto 5, 3, [97]), (95, .iload 5, 2, []), (97, .ireturn, 1, [])]
def xm_154 : xM := (yX11_run, cX11_run, 8, 1, 0, (Option.some Jvm.ClassFile.FieldType.int), xk_154, [(33, [3, 7])])
def xk_155 : List xE := [(0, .aload_n 0, 1, []), (1, .iload_n 1, 1, []), (2, .iload_n 2, 1, []), (3, .invokevirtual 188, 3, [1, 173, 11, 2, 1, 0]), (6, .istore_n 3, 1, []), (7, .iload_n 3, 1, []), (8, .ifCond .eq 5, 3, [13]), (11, .iload_n 3, 1, []), (12, .ireturn, 1, []), (13, .aload_n 0, 1, []), (14, .getfield 16, 3, [11, 1]), (17, .aload_n 0, 1, []), (18, .getfield 10, 3, [11, 0]), (21, .invokevirtual 54, 3, [1, 91, 2, 1, 0, 0]), (24, .aload_n 0, 1, []), (25, .bipush (-4), 2, []), (27, .putfield 195, 3, [11, 8]), (30, .iconst 1, 1, []), (31, .aload_n 0, 1, []), (32, .getfield 41, 3, [11, 7]), (35, .iload_n 1, 1, []), (36, .aaload, 1, []), (37, .getfield 58, 3, [7, 2]), (40, .iconst 4, 1, []), (41, .idiv, 1, []), (42, .ishl, 1, []), (43, .iconst 1, 1, []), (44, .isub, 1, []), (45, .istore 4, 2, []), (47, .aload_n 0, 1, []), (48, .aload_n 0, 1, []), (49, .getfield 41, 3, [11, 7]), (52, .iload_n 1, 1, []), (53, .aaload, 1, []), (54, .iload 4, 2, []), (56, .iconst 0, 1, []), (57, .iconst 0, 1, []), (58, .invokevirtual 198, 3, [1, 176, 11, 4, 1, 0]), (61, .istore 5, 2, []), (63, .iload_n 2, 1, []), (64, .ifCond .ne 8, 3, [72]), (67, .iload 5, 2, []), (69, .goto 7, 3, [76]), (72, .aload_n 0, 1, []), (73, .getfield 195, 3, [11, 8]), (76, .ireturn, 1, [])]
def xm_155 : xM := (yX11_orders, cX11_orders, 6, 1, 0, (Option.some Jvm.ClassFile.FieldType.int), xk_155, [])
def xk_156 : List xE := [(0, .iload_n 1, 1, []), (1, .iconst 1, 1, []), (2, .if_icmp .lt 9, 3, [11]), (5, .iload_n 1, 1, []), (6, .bipush 30, 2, []), (8, .if_icmp .le 5, 3, [13]), (11, .iconst (-1), 1, []), (12, .ireturn, 1, []), (13, .aload_n 0, 1, []), (14, .getfield 10, 3, [11, 0]), (17, .getfield 110, 3, [2, 2]), (20, .ifCond .ne 6, 3, [26]), (23, .bipush (-3), 2, []), (25, .ireturn, 1, []), (26, .aload_n 0, 1, []), (27, .getfield 16, 3, [11, 1]), (30, .aload_n 0, 1, []), (31, .getfield 10, 3, [11, 0]), (34, .invokevirtual 54, 3, [1, 91, 2, 1, 0, 0]), (37, .iload_n 2, 1, []), (38, .istore_n 3, 1, []), (39, .iconst 0, 1, []), (40, .istore 4, 2, []), (42, .iconst 0, 1, []), (43, .istore 5, 2, []), (45, .iload 5, 2, []), (47, .iload_n 1, 1, []), (48, .if_icmp .ge 106, 3, [154]), (51, .iload_n 3, 1, []), (52, .invokestatic 202, 3, [0, 177, 1, 1, 0]), (55, .istore_n 3, 1, []), (56, .iload_n 3, 1, []), (57, .aload_n 0, 1, []), (58, .getfield 10, 3, [11, 0]), (61, .getfield 110, 3, [2, 2]), (64, .invokestatic 205, 3, [0, 178, 2, 1, 0]), (67, .istore 6, 2, []), (69, .iload_n 3, 1, []), (70, .invokestatic 202, 3, [0, 177, 1, 1, 0]), (73, .istore_n 3, 1, []), (74, .iload_n 3, 1, []), (75, .iconst 4, 1, []), (76, .invokestatic 205, 3, [0, 178, 2, 1, 0]), (79, .istore 7, 2, []), (81, .iload_n 3, 1, []), (82, .invokestatic 202, 3, [0, 177, 1, 1, 0]), (85, .istore_n 3, 1, []), (86, .iload_n 3, 1, []), (87, .aload_n 0, 1, []), (88, .getfield 10, 3, [11, 0]), (91, .getfield 169, 3, [2, 0]), (94, .invokestatic 205, 3, [0, 178, 2, 1, 0]), (97, .istore 8, 2, []), (99, .iload_n 3, 1, []), (100, .invokestatic 202, 3, [0, 177, 1, 1, 0]), (103, .istore_n 3, 1, []), (104, .iload_n 3, 1, []), (105, .aload_n 0, 1, []), (106, .getfield 10, 3, [11, 0]), (109, .getfield 169, 3, [2, 0]), (112, .invokestatic 205, 3, [0, 178, 2, 1, 0]), (115, .istore 9, 2, []), (117, .iload 8, 2, []), (119, .iload 9, 2, []), (121, .if_icmp .eq 27, 3, [148]), (124, .aload_n 0, 1, []), (125, .aload_n 0, 1, []), (126, .getfield 16, 3, [11, 1]), (129, .iload 6, 2, []), (131, .iload 7, 2, []), (133, .iload 8, 2, []), (135, .iload 9, 2, []), (137, .invokevirtual 142, 3, [1, 174, 11, 5, 1, 0]), (140, .bipush (-4), 2, []), (142, .if_icmp .eq 6, 3, [148]), (145, .iinc 4 1, 3, []), (148, .iinc 5 1, 3, []), (151, .goto (-106), 3, [45]), (154, .iload 4, 2, []), (156, .ireturn, 1, [])]
def xm_156 : xM := (yX11_seeded, cX11_seeded, 10, 1, 0, (Option.some Jvm.ClassFile.FieldType.int), xk_156, [(45, [2, 6, 7, 8, 9])])
def xk_157 : List xE := [(0, .aload_n 0, 1, []), (1, .iload_n 1, 1, []), (2, .iconst 0, 1, []), (3, .invokevirtual 46, 3, [1, 171, 11, 2, 1, 0]), (6, .istore_n 2, 1, []), (7, .iload_n 2, 1, []), (8, .ifCond .eq 5, 3, [13]), (11, .iload_n 2, 1, []), (12, .ireturn, 1, []), (13, .aload_n 0, 1, []), (14, .getfield 41, 3, [11, 7]), (17, .iload_n 1, 1, []), (18, .aaload, 1, []), (19, .astore_n 3, 1, []), (20, .aload_n 0, 1, []), (21, .getfield 16, 3, [11, 1]), (24, .aload_n 0, 1, []), (25, .getfield 10, 3, [11, 0]), (28, .invokevirtual 54, 3, [1, 91, 2, 1, 0, 0]), (31, .iconst 0, 1, []), (32, .istore 4, 2, []), (34, .iload 4, 2, []), (36, .aload_n 3, 1, []), (37, .getfield 58, 3, [7, 2]), (40, .if_icmp .ge 68, 3, [108]), (43, .aload_n 3, 1, []), (44, .iload 4, 2, []), (46, .invokevirtual 66, 3, [1, 126, 7, 1, 1, 0]), (49, .istore 5, 2, []), (51, .aload_n 0, 1, []), (52, .getfield 16, 3, [11, 1]), (55, .iload 5, 2, []), (57, .invokevirtual 73, 3, [1, 94, 2, 1, 1, 0]), (60, .ifCond .eq 14, 3, [74]), (63, .iload 4, 2, []), (65, .iconst 1, 1, []), (66, .iadd, 1, []), (67, .aload_n 3, 1, []), (68, .getfield 58, 3, [7, 2]), (71, .if_icmp .ne 6, 3, [77]), (74, .iload 4, 2, []), (76, .ireturn, 1, []), (77, .aload_n 0, 1, []), (78, .getfield 16, 3, [11, 1]), (81, .iload 5, 2, []), (83, .aload_n 3, 1, []), (84, .iload 4, 2, []), (86, .iconst 1, 1, []), (87, .iadd, 1, []), (88, .invokevirtual 66, 3, [1, 126, 7, 1, 1, 0]), (91, .invokevirtual 208, 3, [1, 101, 2, 2, 1, 0]), (94, .ifCond .ne 8, 3, [102]), (97, .iload 4, 2, []), (99, .iconst 1, 1, []), (100, .iadd, 1, []), (101, .ireturn, 1, []), (102, .iinc 4 2, 3, []), (105, .goto (-71), 3, [34]), (108, .bipush (-4), 2, []), (110, .ireturn, 1, [])]
def xm_157 : xM := (yX11_judge, cX11_judge, 6, 1, 0, (Option.some Jvm.ClassFile.FieldType.int), xk_157, [(34, [1, 2, 5])])
def xk_158 : List xE := [(0, .aload_n 0, 1, []), (1, .getfield 19, 3, [11, 2]), (4, .aload_n 0, 1, []), (5, .getfield 10, 3, [11, 0]), (8, .invokevirtual 54, 3, [1, 91, 2, 1, 0, 0]), (11, .aload_n 0, 1, []), (12, .iconst 1, 1, []), (13, .putfield 211, 3, [11, 3]), (16, .aload_n 0, 1, []), (17, .getfield 10, 3, [11, 0]), (20, .getfield 183, 3, [2, 1]), (23, .ireturn, 1, [])]
def xm_158 : xM := (yX11_image, cX11_image, 1, 1, 0, (Option.some Jvm.ClassFile.FieldType.int), xk_158, [])
def xk_159 : List xE := [(0, .aload_n 0, 1, []), (1, .getfield 211, 3, [11, 3]), (4, .ifCond .ne 6, 3, [10]), (7, .bipush (-3), 2, []), (9, .ireturn, 1, []), (10, .aload_n 0, 1, []), (11, .getfield 10, 3, [11, 0]), (14, .aload_n 0, 1, []), (15, .getfield 19, 3, [11, 2]), (18, .invokevirtual 54, 3, [1, 91, 2, 1, 0, 0]), (21, .aload_n 0, 1, []), (22, .getfield 10, 3, [11, 0]), (25, .getfield 183, 3, [2, 1]), (28, .ireturn, 1, [])]
def xm_159 : xM := (yX11_restore, cX11_restore, 1, 1, 0, (Option.some Jvm.ClassFile.FieldType.int), xk_159, [])
def xk_160 : List xE := [(0, .iload_n 1, 1, []), (1, .tableswitch 78 0 4 #[35, 43, 51, 59, 70], 35, [79, 0, 36, 1, 44, 2, 52, 3, 60, 4, 71]), (36, .aload_n 0, 1, []), (37, .getfield 10, 3, [11, 0]), (40, .getfield 169, 3, [2, 0]), (43, .ireturn, 1, []), (44, .aload_n 0, 1, []), (45, .getfield 10, 3, [11, 0]), (48, .getfield 183, 3, [2, 1]), (51, .ireturn, 1, []), (52, .aload_n 0, 1, []), (53, .getfield 10, 3, [11, 0]), (56, .getfield 110, 3, [2, 2]), (59, .ireturn, 1, []), (60, .aload_n 0, 1, []), (61, .getfield 10, 3, [11, 0]), (64, .getfield 116, 3, [2, 3]), (67, .invokestatic 215, 3, [0, 78, 1, 1, 0]), (70, .ireturn, 1, []), (71, .aload_n 0, 1, []), (72, .getfield 10, 3, [11, 0]), (75, .invokevirtual 220, 3, [1, 102, 2, 0, 1, 0]), (78, .ireturn, 1, []), (79, .iconst (-1), 1, []), (80, .ireturn, 1, [])]
def xm_160 : xM := (yX11_count, cX11_count, 2, 1, 0, (Option.some Jvm.ClassFile.FieldType.int), xk_160, [])
def xk_161 : List xE := [(0, .iload_n 1, 1, []), (1, .bipush 8, 2, []), (3, .invokestatic 93, 3, [0, 166, 2, 1, 0]), (6, .ifCond .eq 11, 3, [17]), (9, .iload_n 2, 1, []), (10, .iconst 2, 1, []), (11, .invokestatic 93, 3, [0, 166, 2, 1, 0]), (14, .ifCond .ne 5, 3, [19]), (17, .iconst (-1), 1, []), (18, .ireturn, 1, []), (19, .iload_n 2, 1, []), (20, .ifCond .ne 19, 3, [39]), (23, .aload_n 0, 1, []), (24, .getfield 29, 3, [11, 5]), (27, .iload_n 1, 1, []), (28, .iconst 0, 1, []), (29, .iastore, 1, []), (30, .aload_n 0, 1, []), (31, .getfield 35, 3, [11, 6]), (34, .iload_n 1, 1, []), (35, .aconst_null, 1, [16]), (36, .aastore, 1, []), (37, .iconst 0, 1, []), (38, .ireturn, 1, []), (39, .iload_n 3, 1, []), (40, .bipush 8, 2, []), (42, .invokestatic 93, 3, [0, 166, 2, 1, 0]), (45, .ifCond .eq 13, 3, [58]), (48, .iload 4, 2, []), (50, .bipush 10, 2, []), (52, .invokestatic 93, 3, [0, 166, 2, 1, 0]), (55, .ifCond .ne 5, 3, [60]), (58, .iconst (-1), 1, []), (59, .ireturn, 1, []), (60, .aload_n 0, 1, []), (61, .getfield 29, 3, [11, 5]), (64, .iload_n 1, 1, []), (65, .iconst 1, 1, []), (66, .iastore, 1, []), (67, .aload_n 0, 1, []), (68, .getfield 35, 3, [11, 6]), (71, .iload_n 1, 1, []), (72, .iload_n 3, 1, []), (73, .iload 4, 2, []), (75, .invokestatic 223, 3, [0, 182, 2, 3, 16]), (78, .aastore, 1, []), (79, .iconst 0, 1, []), (80, .ireturn, 1, [])]
def xm_161 : xM := (yX11_keep, cX11_keep, 5, 1, 0, (Option.some Jvm.ClassFile.FieldType.int), xk_161, [])
def xk_162 : List xE := [(0, .iload_n 1, 1, []), (1, .bipush 8, 2, []), (3, .invokestatic 93, 3, [0, 166, 2, 1, 0]), (6, .ifCond .eq 18, 3, [24]), (9, .iload_n 2, 1, []), (10, .ifCond .lt 14, 3, [24]), (13, .iload_n 2, 1, []), (14, .iconst 2, 1, []), (15, .if_icmp .gt 9, 3, [24]), (18, .iload_n 3, 1, []), (19, .bipush 100, 2, []), (21, .if_icmp .le 5, 3, [26]), (24, .iconst (-1), 1, []), (25, .ireturn, 1, []), (26, .iload_n 3, 1, []), (27, .ifCond .ge 6, 3, [33]), (30, .bipush (-14), 2, []), (32, .ireturn, 1, []), (33, .aload_n 0, 1, []), (34, .getfield 29, 3, [11, 5]), (37, .iload_n 1, 1, []), (38, .iconst 2, 1, []), (39, .iastore, 1, []), (40, .aload_n 0, 1, []), (41, .getfield 35, 3, [11, 6]), (44, .iload_n 1, 1, []), (45, .aconst_null, 1, [16]), (46, .aastore, 1, []), (47, .aload_n 0, 1, []), (48, .getfield 41, 3, [11, 7]), (51, .iload_n 1, 1, []), (52, .aaload, 1, []), (53, .iload_n 2, 1, []), (54, .iload_n 3, 1, []), (55, .invokevirtual 227, 3, [1, 123, 7, 2, 0, 0]), (58, .iconst 0, 1, []), (59, .ireturn, 1, [])]
def xm_162 : xM := (yX11_row, cX11_row, 4, 1, 0, (Option.some Jvm.ClassFile.FieldType.int), xk_162, [])
def xk_163 : List xE := [(0, .aload_n 0, 1, []), (1, .iload_n 1, 1, []), (2, .iconst 0, 1, []), (3, .invokevirtual 46, 3, [1, 171, 11, 2, 1, 0]), (6, .istore 4, 2, []), (8, .iload 4, 2, []), (10, .ifCond .eq 6, 3, [16]), (13, .iload 4, 2, []), (15, .ireturn, 1, []), (16, .aload_n 0, 1, []), (17, .getfield 41, 3, [11, 7]), (20, .iload_n 1, 1, []), (21, .aaload, 1, []), (22, .iload_n 2, 1, []), (23, .iload_n 3, 1, []), (24, .invokevirtual 231, 3, [1, 127, 7, 2, 1, 0]), (27, .ifCond .eq 7, 3, [34]), (30, .iconst 0, 1, []), (31, .goto 5, 3, [36]), (34, .bipush (-13), 2, []), (36, .ireturn, 1, [])]
def xm_163 : xM := (yX11_put, cX11_put, 5, 1, 0, (Option.some Jvm.ClassFile.FieldType.int), xk_163, [])
def xk_164 : List xE := [(0, .iload_n 1, 1, []), (1, .bipush 8, 2, []), (3, .invokestatic 93, 3, [0, 166, 2, 1, 0]), (6, .ifCond .eq 12, 3, [18]), (9, .iload_n 3, 1, []), (10, .bipush 8, 2, []), (12, .invokestatic 93, 3, [0, 166, 2, 1, 0]), (15, .ifCond .ne 5, 3, [20]), (18, .iconst (-1), 1, []), (19, .ireturn, 1, []), (20, .aload_n 0, 1, []), (21, .getfield 29, 3, [11, 5]), (24, .iload_n 1, 1, []), (25, .iaload, 1, []), (26, .ifCond .eq 12, 3, [38]), (29, .aload_n 0, 1, []), (30, .getfield 29, 3, [11, 5]), (33, .iload_n 3, 1, []), (34, .iaload, 1, []), (35, .ifCond .ne 6, 3, [41]), (38, .bipush (-11), 2, []), (40, .ireturn, 1, []), (41, .aload_n 0, 1, []), (42, .getfield 29, 3, [11, 5]), (45, .iload_n 1, 1, []), (46, .iaload, 1, []), (47, .iconst 2, 1, []), (48, .if_icmp .ne 34, 3, [82]), (51, .aload_n 0, 1, []), (52, .getfield 29, 3, [11, 5]), (55, .iload_n 3, 1, []), (56, .iaload, 1, []), (57, .iconst 2, 1, []), (58, .if_icmp .ne 24, 3, [82]), (61, .aload_n 0, 1, []), (62, .getfield 41, 3, [11, 7]), (65, .iload_n 1, 1, []), (66, .aaload, 1, []), (67, .getfield 249, 3, [7, 1]), (70, .aload_n 0, 1, []), (71, .getfield 41, 3, [11, 7]), (74, .iload_n 3, 1, []), (75, .aaload, 1, []), (76, .getfield 249, 3, [7, 1]), (79, .if_icmp .eq 6, 3, [85]), (82, .bipush (-12), 2, []), (84, .ireturn, 1, []), (85, .aload_n 0, 1, []), (86, .getfield 41, 3, [11, 7]), (89, .iload_n 1, 1, []), (90, .aaload, 1, []), (91, .iload_n 2, 1, []), (92, .iload 5, 2, []), (94, .invokevirtual 252, 3, [1, 125, 7, 2, 1, 0]), (97, .ifCond .eq 19, 3, [116]), (100, .aload_n 0, 1, []), (101, .getfield 41, 3, [11, 7]), (104, .iload_n 3, 1, []), (105, .aaload, 1, []), (106, .iload 4, 2, []), (108, .iload 5, 2, []), (110, .invokevirtual 252, 3, [1, 125, 7, 2, 1, 0]), (113, .ifCond .ne 6, 3, [119]), (116, .bipush (-13), 2, []), (118, .ireturn, 1, []), (119, .aload_n 0, 1, []), (120, .getfield 41, 3, [11, 7]), (123, .iload_n 1, 1, []), (124, .aaload, 1, []), (125, .getfield 255, 3, [7, 0]), (128, .iload_n 2, 1, []), (129, .aload_n 0, 1, []), (130, .getfield 41, 3, [11, 7]), (133, .iload_n 3, 1, []), (134, .aaload, 1, []), (135, .getfield 255, 3, [7, 0]), (138, .iload 4, 2, []), (140, .iload 5, 2, []), (142, .invokestatic 258, 3, [5]), (145, .iload 5, 2, []), (147, .ireturn, 1, [])]
def xm_164 : xM := (yX11_copy, cX11_copy, 6, 1, 0, (Option.some Jvm.ClassFile.FieldType.int), xk_164, [])
def xk_165 : List xE := [(0, .aload_n 0, 1, []), (1, .iload_n 1, 1, []), (2, .invokevirtual 103, 3, [1, 172, 11, 1, 1, 0]), (5, .istore_n 2, 1, []), (6, .iload_n 2, 1, []), (7, .ifCond .ne 12, 3, [19]), (10, .aload_n 0, 1, []), (11, .getfield 35, 3, [11, 6]), (14, .iload_n 1, 1, []), (15, .aaload, 1, []), (16, .ifnonnull 5, 3, [21]), (19, .iload_n 2, 1, []), (20, .ireturn, 1, []), (21, .aload_n 0, 1, []), (22, .getfield 35, 3, [11, 6]), (25, .iload_n 1, 1, []), (26, .aaload, 1, []), (27, .invokevirtual 264, 3, [2, 5, 0, 1, 0]), (30, .ireturn, 1, [])]
def xm_165 : xM := (yX11_wage, cX11_wage, 3, 1, 0, (Option.some Jvm.ClassFile.FieldType.int), xk_165, [])
def xk_166 : List xE := [(0, .iload_n 0, 1, []), (1, .ifCond .lt 12, 3, [13]), (4, .iload_n 0, 1, []), (5, .iload_n 1, 1, []), (6, .if_icmp .ge 7, 3, [13]), (9, .iconst 1, 1, []), (10, .goto 4, 3, [14]), (13, .iconst 0, 1, []), (14, .ireturn, 1, [])]
def xm_166 : xM := (yX11_isOneOf, cX11_isOneOf, 2, 1, 0, (Option.some Jvm.ClassFile.FieldType.boolean), xk_166, [])
def xk_167 : List xE := [(0, .iload_n 0, 1, []), (1, .iload_n 1, 1, []), (2, .ishr, 1, []), (3, .iconst 1, 1, []), (4, .iand, 1, []), (5, .ifCond .eq 7, 3, [12]), (8, .iconst 1, 1, []), (9, .goto 4, 3, [13]), (12, .iconst 0, 1, []), (13, .ireturn, 1, [])]
def xm_167 : xM := (yX11_contains, cX11_contains, 2, 1, 0, (Option.some Jvm.ClassFile.FieldType.boolean), xk_167, [])
def xk_168 : List xE := [(0, .lconst 1, 1, []), (1, .iconst 4, 1, []), (2, .iload_n 0, 1, []), (3, .imul, 1, []), (4, .iload_n 1, 1, []), (5, .iadd, 1, []), (6, .lshl, 1, []), (7, .lreturn, 1, [])]
def xm_168 : xM := (yX11_nickOf, cX11_nickOf, 2, 2, 0, (Option.some Jvm.ClassFile.FieldType.long), xk_168, [])
def xk_169 : List xE := [(0, .iload_n 1, 1, []), (1, .iconst 4, 1, []), (2, .invokestatic 93, 3, [0, 166, 2, 1, 0]), (5, .ifCond .eq 19, 3, [24]), (8, .aload_n 0, 1, []), (9, .getfield 10, 3, [11, 0]), (12, .iload_n 2, 1, []), (13, .iload_n 3, 1, []), (14, .invokevirtual 272, 3, [1, 93, 2, 2, 1, 0]), (17, .ifCond .eq 7, 3, [24]), (20, .iconst 1, 1, []), (21, .goto 4, 3, [25]), (24, .iconst 0, 1, []), (25, .ireturn, 1, [])]
def xm_169 : xM := (yX11_isErrand, cX11_isErrand, 4, 1, 0, (Option.some Jvm.ClassFile.FieldType.boolean), xk_169, [])
def xk_170 : List xE := [(0, .aload_n 0, 1, []), (1, .iload_n 1, 1, []), (2, .invokevirtual 89, 3, [1, 95, 2, 1, 3, 16]), (5, .ifnull 25, 3, [30]), (8, .iload_n 2, 1, []), (9, .iconst 4, 1, []), (10, .invokestatic 93, 3, [0, 166, 2, 1, 0]), (13, .ifCond .eq 17, 3, [30]), (16, .aload_n 0, 1, []), (17, .iload_n 3, 1, []), (18, .iload 4, 2, []), (20, .invokevirtual 272, 3, [1, 93, 2, 2, 1, 0]), (23, .ifCond .eq 7, 3, [30]), (26, .iconst 1, 1, []), (27, .goto 4, 3, [31]), (30, .iconst 0, 1, []), (31, .ireturn, 1, [])]
def xm_170 : xM := (yX11_isCarriage, cX11_isCarriage, 5, 1, 0, (Option.some Jvm.ClassFile.FieldType.boolean), xk_170, [])
def xk_171 : List xE := [(0, .iload_n 1, 1, []), (1, .bipush 8, 2, []), (3, .invokestatic 93, 3, [0, 166, 2, 1, 0]), (6, .ifCond .ne 5, 3, [11]), (9, .iconst (-1), 1, []), (10, .ireturn, 1, []), (11, .aload_n 0, 1, []), (12, .getfield 29, 3, [11, 5]), (15, .iload_n 1, 1, []), (16, .iaload, 1, []), (17, .ifCond .ne 6, 3, [23]), (20, .bipush (-11), 2, []), (22, .ireturn, 1, []), (23, .aload_n 0, 1, []), (24, .getfield 29, 3, [11, 5]), (27, .iload_n 1, 1, []), (28, .iaload, 1, []), (29, .iconst 2, 1, []), (30, .if_icmp .ne 23, 3, [53]), (33, .iload_n 2, 1, []), (34, .ifCond .eq 15, 3, [49]), (37, .aload_n 0, 1, []), (38, .getfield 41, 3, [11, 7]), (41, .iload_n 1, 1, []), (42, .aaload, 1, []), (43, .getfield 249, 3, [7, 1]), (46, .ifCond .ne 7, 3, [53]), (49, .iconst 1, 1, []), (50, .goto 4, 3, [54]), (53, .iconst 0, 1, []), (54, .istore_n 3, 1, []), (55, .iload_n 3, 1, []), (56, .ifCond .eq 7, 3, [63]), (59, .iconst 0, 1, []), (60, .goto 5, 3, [65]), (63, .bipush (-12), 2, []), (65, .ireturn, 1, [])]
def xm_171 : xM := (yX11_rowRefusal, cX11_rowRefusal, 4, 1, 0, (Option.some Jvm.ClassFile.FieldType.int), xk_171, [])
def xk_172 : List xE := [(0, .iload_n 1, 1, []), (1, .bipush 8, 2, []), (3, .invokestatic 93, 3, [0, 166, 2, 1, 0]), (6, .ifCond .ne 5, 3, [11]), (9, .iconst (-1), 1, []), (10, .ireturn, 1, []), (11, .aload_n 0, 1, []), (12, .getfield 29, 3, [11, 5]), (15, .iload_n 1, 1, []), (16, .iaload, 1, []), (17, .ifCond .ne 6, 3, [23]), (20, .bipush (-11), 2, []), (22, .ireturn, 1, []), (23, .aload_n 0, 1, []), (24, .getfield 29, 3, [11, 5]), (27, .iload_n 1, 1, []), (28, .iaload, 1, []), (29, .iconst 1, 1, []), (30, .if_icmp .ne 7, 3, [37]), (33, .iconst 0, 1, []), (34, .goto 5, 3, [39]), (37, .bipush (-12), 2, []), (39, .ireturn, 1, [])]
def xm_172 : xM := (yX11_carrierRefusal, cX11_carrierRefusal, 2, 1, 0, (Option.some Jvm.ClassFile.FieldType.int), xk_172, [])
def xk_173 : List xE := [(0, .iload_n 2, 1, []), (1, .iconst 2, 1, []), (2, .invokestatic 93, 3, [0, 166, 2, 1, 0]), (5, .ifCond .ne 5, 3, [10]), (8, .iconst (-1), 1, []), (9, .ireturn, 1, []), (10, .aload_n 0, 1, []), (11, .iload_n 1, 1, []), (12, .iconst 1, 1, []), (13, .invokevirtual 46, 3, [1, 171, 11, 2, 1, 0]), (16, .istore_n 3, 1, []), (17, .iload_n 3, 1, []), (18, .ifCond .eq 5, 3, [23]), (21, .iload_n 3, 1, []), (22, .ireturn, 1, []), (23, .aload_n 0, 1, []), (24, .getfield 41, 3, [11, 7]), (27, .iload_n 1, 1, []), (28, .aaload, 1, []), (29, .astore 4, 2, []), (31, .aload 4, 2, []), (33, .getfield 58, 3, [7, 2]), (36, .iconst 4, 1, []), (37, .irem, 1, []), (38, .ifCond .ne 13, 3, [51]), (41, .aload 4, 2, []), (43, .getfield 58, 3, [7, 2]), (46, .bipush 20, 2, []), (48, .if_icmp .le 6, 3, [54]), (51, .bipush (-13), 2, []), (53, .ireturn, 1, []), (54, .iconst 0, 1, []), (55, .istore 5, 2, []), (57, .iload 5, 2, []), (59, .aload 4, 2, []), (61, .getfield 58, 3, [7, 2]), (64, .if_icmp .ge 56, 3, [120]), (67, .aload_n 0, 1, []), (68, .getfield 10, 3, [11, 0]), (71, .aload 4, 2, []), (73, .iload 5, 2, []), (75, .invokevirtual 66, 3, [1, 126, 7, 1, 1, 0]), (78, .aload 4, 2, []), (80, .iload 5, 2, []), (82, .iconst 1, 1, []), (83, .iadd, 1, []), (84, .invokevirtual 66, 3, [1, 126, 7, 1, 1, 0]), (87, .aload 4, 2, []), (89, .iload 5, 2, []), (91, .iconst 2, 1, []), (92, .iadd, 1, []), (93, .invokevirtual 66, 3, [1, 126, 7, 1, 1, 0]), (96, .aload 4, 2, []), (98, .iload 5, 2, []), (100, .iconst 3, 1, []), (101, .iadd, 1, []), (102, .invokevirtual 66, 3, [1, 126, 7, 1, 1, 0]), (105, .invokestatic 124, 3, [0, 170, 5, 1, 0]), (108, .ifCond .ne 6, 3, [114]), (111, .bipush (-13), 2, []), (113, .ireturn, 1, []), (114, .iinc 5 4, 3, []), (117, .goto (-60), 3, [57]), (120, .iconst 0, 1, []), (121, .ireturn, 1, [])]
def xm_173 : xM := (yX11_carriagesRefusal, cX11_carriagesRefusal, 6, 1, 0, (Option.some Jvm.ClassFile.FieldType.int), xk_173, [(57, [1, 2, 3])])
def xk_174 : List xE := [(0, .aload_n 0, 1, []), (1, .getfield 25, 3, [11, 4]), (4, .aload_n 1, 1, []), (5, .iload_n 2, 1, []), (6, .iload_n 3, 1, []), (7, .iload 4, 2, []), (9, .iload 5, 2, []), (11, .invokevirtual 128, 3, [1, 134, 10, 5, 1, 0]), (14, .ifCond .ne 6, 3, [20]), (17, .bipush (-4), 2, []), (19, .ireturn, 1, []), (20, .aload_n 0, 1, []), (21, .getfield 25, 3, [11, 4]), (24, .invokevirtual 275, 3, [1, 137, 10, 0, 0, 0]), (27, .aload_n 0, 1, []), (28, .getfield 25, 3, [11, 4]), (31, .invokevirtual 135, 3, [1, 136, 10, 0, 1, 0]), (34, .ireturn, 1, [])]
def xm_174 : xM := (yX11_milesGone, cX11_milesGone, 6, 1, 0, (Option.some Jvm.ClassFile.FieldType.int), xk_174, [])
def xk_175 : List xE := [(0, .iconst 4, 1, []), (1, .iload_n 2, 1, []), (2, .imul, 1, []), (3, .istore_n 3, 1, []), (4, .aload_n 0, 1, []), (5, .aload_n 0, 1, []), (6, .getfield 16, 3, [11, 1]), (9, .aload_n 1, 1, []), (10, .iload_n 3, 1, []), (11, .invokevirtual 66, 3, [1, 126, 7, 1, 1, 0]), (14, .aload_n 1, 1, []), (15, .iload_n 3, 1, []), (16, .iconst 1, 1, []), (17, .iadd, 1, []), (18, .invokevirtual 66, 3, [1, 126, 7, 1, 1, 0]), (21, .aload_n 1, 1, []), (22, .iload_n 3, 1, []), (23, .iconst 2, 1, []), (24, .iadd, 1, []), (25, .invokevirtual 66, 3, [1, 126, 7, 1, 1, 0]), (28, .aload_n 1, 1, []), (29, .iload_n 3, 1, []), (30, .iconst 3, 1, []), (31, .iadd, 1, []), (32, .invokevirtual 66, 3, [1, 126, 7, 1, 1, 0]), (35, .invokevirtual 142, 3, [1, 174, 11, 5, 1, 0]), (38, .ireturn, 1, [])]
def xm_175 : xM := (yX11_milesOfCarriage, cX11_milesOfCarriage, 4, 1, 0, (Option.some Jvm.ClassFile.FieldType.int), xk_175, [])
def xk_176 : List xE := [(0, .iload_n 2, 1, []), (1, .ifCond .ne 29, 3, [30]), (4, .aload_n 0, 1, []), (5, .getfield 195, 3, [11, 8]), (8, .bipush (-4), 2, []), (10, .if_icmp .eq 12, 3, [22]), (13, .iload 4, 2, []), (15, .aload_n 0, 1, []), (16, .getfield 195, 3, [11, 8]), (19, .if_icmp .ge 9, 3, [28]), (22, .aload_n 0, 1, []), (23, .iload 4, 2, []), (25, .putfield 195, 3, [11, 8]), (28, .iconst 1, 1, []), (29, .ireturn, 1, []), (30, .iload_n 3, 1, []), (31, .iconst 5, 1, []), (32, .if_icmp .lt 5, 3, [37]), (35, .iconst 0, 1, []), (36, .ireturn, 1, []), (37, .aload_n 0, 1, []), (38, .getfield 16, 3, [11, 1]), (41, .getfield 116, 3, [2, 3]), (44, .lstore 5, 2, []), (46, .iconst 0, 1, []), (47, .istore 7, 2, []), (49, .iconst 0, 1, []), (50, .istore 8, 2, []), (52, .iload 8, 2, []), (54, .iconst 5, 1, []), (55, .if_icmp .ge 72, 3, [127]), (58, .iload_n 2, 1, []), (59, .iload 8, 2, []), (61, .invokestatic 172, 3, [0, 167, 2, 1, 0]), (64, .ifCond .ne 6, 3, [70]), (67, .goto 54, 3, [121]), (70, .aload_n 0, 1, []), (71, .aload_n 1, 1, []), (72, .iload 8, 2, []), (74, .invokevirtual 191, 3, [1, 175, 11, 2, 1, 0]), (77, .istore 9, 2, []), (79, .iload 9, 2, []), (81, .bipush (-4), 2, []), (83, .if_icmp .eq 29, 3, [112]), (86, .iload 7, 2, []), (88, .aload_n 0, 1, []), (89, .aload_n 1, 1, []), (90, .iload_n 2, 1, []), (91, .iconst 1, 1, []), (92, .iload 8, 2, []), (94, .ishl, 1, []), (95, .iconst (-1), 1, []), (96, .ixor, 1, []), (97, .iand, 1, []), (98, .iload_n 3, 1, []), (99, .iconst 1, 1, []), (100, .iadd, 1, []), (101, .iload 4, 2, []), (103, .iload 9, 2, []), (105, .iadd, 1, []), (106, .invokevirtual 198, 3, [1, 176, 11, 4, 1, 0]), (109, .iadd, 1, []), (110, .istore 7, 2, []), (112, .aload_n 0, 1, []), (113, .getfield 16, 3, [11, 1]), (116, .lload 5, 2, []), (118, .putfield 116, 3, [2, 3]), (121, .iinc 8 1, 3, []), (124, .goto (-72), 3, [52]), (127, .iload 7, 2, []), (129, .ireturn, 1, [])]
def xm_176 : xM := (yX11_ordersOfAll, cX11_ordersOfAll, 10, 1, 0, (Option.some Jvm.ClassFile.FieldType.int), xk_176, [(52, [6, 9])])
def xk_177 : List xE := [(0, .iload_n 0, 1, []), (1, .ldc_w 278, 3, [1103515245]), (4, .imul, 1, []), (5, .sipush 12345, 3, []), (8, .iadd, 1, []), (9, .ireturn, 1, [])]
def xm_177 : xM := (yX11_nextSeed, cX11_nextSeed, 1, 1, 0, (Option.some Jvm.ClassFile.FieldType.int), xk_177, [])
def xk_178 : List xE := [(0, .iload_n 1, 1, []), (1, .iconst 1, 1, []), (2, .if_icmp .ge 7, 3, [9]), (5, .iconst 0, 1, []), (6, .goto 13, 3, [19]), (9, .iload_n 0, 1, []), (10, .ldc_w 279, 3, [2147483647]), (13, .iand, 1, []), (14, .bipush 16, 2, []), (16, .ishr, 1, []), (17, .iload_n 1, 1, []), (18, .irem, 1, []), (19, .ireturn, 1, [])]
def xm_178 : xM := (yX11_draw, cX11_draw, 2, 1, 0, (Option.some Jvm.ClassFile.FieldType.int), xk_178, [])
def xk_179 : List xE := [(0, .iload_n 0, 1, []), (1, .lookupswitch 59 #[(99, 53), (103, 57), (112, 51), (114, 55), (117, 53)], 51, [60, 99, 54, 103, 58, 112, 52, 114, 56, 117, 54]), (52, .iconst 1, 1, []), (53, .ireturn, 1, []), (54, .iconst 2, 1, []), (55, .ireturn, 1, []), (56, .iconst 3, 1, []), (57, .ireturn, 1, []), (58, .iconst 4, 1, []), (59, .ireturn, 1, []), (60, .iconst 0, 1, []), (61, .ireturn, 1, [])]
def xm_179 : xM := (yX11_digitsBehind, cX11_digitsBehind, 1, 1, 0, (Option.some Jvm.ClassFile.FieldType.int), xk_179, [])
def xk_180 : List xE := [(0, .iconst (-1), 1, []), (1, .istore_n 1, 1, []), (2, .iconst 0, 1, []), (3, .istore_n 2, 1, []), (4, .iload_n 2, 1, []), (5, .aload_n 0, 1, []), (6, .getfield 58, 3, [7, 2]), (9, .if_icmp .ge 65, 3, [74]), (12, .aload_n 0, 1, []), (13, .iload_n 2, 1, []), (14, .invokevirtual 66, 3, [1, 126, 7, 1, 1, 0]), (17, .istore_n 3, 1, []), (18, .iload_n 1, 1, []), (19, .iconst (-1), 1, []), (20, .if_icmp .ne 14, 3, [34]), (23, .iload_n 3, 1, []), (24, .invokestatic 70, 3, [0, 179, 1, 1, 0]), (27, .istore_n 1, 1, []), (28, .iload_n 1, 1, []), (29, .ifCond .ne 39, 3, [68]), (32, .iload_n 2, 1, []), (33, .ireturn, 1, []), (34, .iload_n 1, 1, []), (35, .ifCond .le 23, 3, [58]), (38, .iload_n 3, 1, []), (39, .bipush 48, 2, []), (41, .if_icmp .lt 9, 3, [50]), (44, .iload_n 3, 1, []), (45, .bipush 57, 2, []), (47, .if_icmp .le 5, 3, [52]), (50, .iload_n 2, 1, []), (51, .ireturn, 1, []), (52, .iinc 1 (-1), 3, []), (55, .goto 13, 3, [68]), (58, .iload_n 3, 1, []), (59, .bipush 59, 2, []), (61, .if_icmp .eq 5, 3, [66]), (64, .iload_n 2, 1, []), (65, .ireturn, 1, []), (66, .iconst (-1), 1, []), (67, .istore_n 1, 1, []), (68, .iinc 2 1, 3, []), (71, .goto (-67), 3, [4]), (74, .aload_n 0, 1, []), (75, .getfield 58, 3, [7, 2]), (78, .ifCond .le 12, 3, [90]), (81, .iload_n 1, 1, []), (82, .iconst (-1), 1, []), (83, .if_icmp .ne 7, 3, [90]), (86, .iconst (-1), 1, []), (87, .goto 7, 3, [94]), (90, .aload_n 0, 1, []), (91, .getfield 58, 3, [7, 2]), (94, .ireturn, 1, [])]
def xm_180 : xM := (yX11_firstBrokenByte, cX11_firstBrokenByte, 4, 1, 0, (Option.some Jvm.ClassFile.FieldType.int), xk_180, [(4, [3])])
def xk_181 : List xE := [(0, .aload_n 1, 1, []), (1, .iload_n 2, 1, []), (2, .iconst 1, 1, []), (3, .iadd, 1, []), (4, .invokevirtual 66, 3, [1, 126, 7, 1, 1, 0]), (7, .bipush 48, 2, []), (9, .isub, 1, []), (10, .istore_n 3, 1, []), (11, .aload_n 1, 1, []), (12, .iload_n 2, 1, []), (13, .iconst 2, 1, []), (14, .iadd, 1, []), (15, .invokevirtual 66, 3, [1, 126, 7, 1, 1, 0]), (18, .bipush 48, 2, []), (20, .isub, 1, []), (21, .istore 4, 2, []), (23, .aload_n 1, 1, []), (24, .iload_n 2, 1, []), (25, .iconst 3, 1, []), (26, .iadd, 1, []), (27, .invokevirtual 66, 3, [1, 126, 7, 1, 1, 0]), (30, .bipush 48, 2, []), (32, .isub, 1, []), (33, .istore 5, 2, []), (35, .aload_n 1, 1, []), (36, .iload_n 2, 1, []), (37, .iconst 4, 1, []), (38, .iadd, 1, []), (39, .invokevirtual 66, 3, [1, 126, 7, 1, 1, 0]), (42, .bipush 48, 2, []), (44, .isub, 1, []), (45, .istore 6, 2, []), (47, .aload_n 1, 1, []), (48, .iload_n 2, 1, []), (49, .invokevirtual 66, 3, [1, 126, 7, 1, 1, 0]), (52, .lookupswitch 169 #[(99, 85), (103, 126), (112, 52), (114, 61), (117, 74)], 52, [221, 99, 137, 103, 178, 112, 104, 114, 113, 117, 126]), (104, .aload_n 0, 1, []), (105, .getfield 16, 3, [11, 1]), (108, .iload_n 3, 1, []), (109, .invokevirtual 280, 3, [1, 96, 2, 1, 1, 0]), (112, .ireturn, 1, []), (113, .aload_n 0, 1, []), (114, .getfield 16, 3, [11, 1]), (117, .iload_n 3, 1, []), (118, .iload 4, 2, []), (120, .iload 5, 2, []), (122, .invokevirtual 283, 3, [1, 97, 2, 3, 1, 0]), (125, .ireturn, 1, []), (126, .aload_n 0, 1, []), (127, .getfield 16, 3, [11, 1]), (130, .iload_n 3, 1, []), (131, .iload 4, 2, []), (133, .invokevirtual 208, 3, [1, 101, 2, 2, 1, 0]), (136, .ireturn, 1, []), (137, .iload_n 3, 1, []), (138, .bipush 8, 2, []), (140, .invokestatic 93, 3, [0, 166, 2, 1, 0]), (143, .ifCond .eq 33, 3, [176]), (146, .iload 4, 2, []), (148, .bipush 10, 2, []), (150, .invokestatic 93, 3, [0, 166, 2, 1, 0]), (153, .ifCond .eq 23, 3, [176]), (156, .aload_n 0, 1, []), (157, .getfield 16, 3, [11, 1]), (160, .iload_n 3, 1, []), (161, .iload 4, 2, []), (163, .invokestatic 223, 3, [0, 182, 2, 3, 16]), (166, .invokevirtual 106, 3, [1, 98, 2, 1, 1, 0]), (169, .ifCond .eq 7, 3, [176]), (172, .iconst 1, 1, []), (173, .goto 4, 3, [177]), (176, .iconst 0, 1, []), (177, .ireturn, 1, []), (178, .aload_n 0, 1, []), (179, .getfield 16, 3, [11, 1]), (182, .iload_n 3, 1, []), (183, .iload 4, 2, []), (185, .iload 5, 2, []), (187, .iload 6, 2, []), (189, .invokestatic 124, 3, [0, 170, 5, 1, 0]), (192, .ifCond .eq 27, 3, [219]), (195, .aload_n 0, 1, []), (196, .aload_n 0, 1, []), (197, .getfield 16, 3, [11, 1]), (200, .iload_n 3, 1, []), (201, .iload 4, 2, []), (203, .iload 5, 2, []), (205, .iload 6, 2, []), (207, .invokevirtual 142, 3, [1, 174, 11, 5, 1, 0]), (210, .bipush (-4), 2, []), (212, .if_icmp .eq 7, 3, [219]), (215, .iconst 1, 1, []), (216, .goto 4, 3, [220]), (219, .iconst 0, 1, []), (220, .ireturn, 1, []), (221, .iconst 0, 1, []), (222, .ireturn, 1, [])]
def xm_181 : xM := (yX11_applyStatement, cX11_applyStatement, 7, 1, 0, (Option.some Jvm.ClassFile.FieldType.boolean), xk_181, [])
def xk_182 : List xE := [(0, .iload_n 0, 1, []), (1, .tableswitch 113 1 7 #[43, 53, 63, 73, 83, 93, 103], 43, [114, 1, 44, 2, 54, 3, 64, 4, 74, 5, 84, 6, 94, 7, 104]), (44, .new 286, 3, [5]), (47, .dup, 1, []), (48, .iload_n 0, 1, []), (49, .iload_n 1, 1, []), (50, .invokespecial 288, 3, [3, 118, 2, 0, 0]), (53, .areturn, 1, []), (54, .new 290, 3, [8]), (57, .dup, 1, []), (58, .iload_n 0, 1, []), (59, .iload_n 1, 1, []), (60, .invokespecial 292, 3, [3, 128, 2, 0, 0]), (63, .areturn, 1, []), (64, .new 293, 3, [3]), (67, .dup, 1, []), (68, .iload_n 0, 1, []), (69, .iload_n 1, 1, []), (70, .invokespecial 295, 3, [3, 111, 2, 0, 0]), (73, .areturn, 1, []), (74, .new 296, 3, [6]), (77, .dup, 1, []), (78, .iload_n 0, 1, []), (79, .iload_n 1, 1, []), (80, .invokespecial 298, 3, [3, 121, 2, 0, 0]), (83, .areturn, 1, []), (84, .new 299, 3, [1]), (87, .dup, 1, []), (88, .iload_n 0, 1, []), (89, .iload_n 1, 1, []), (90, .invokespecial 301, 3, [3, 87, 2, 0, 0]), (93, .areturn, 1, []), (94, .new 302, 3, [4]), (97, .dup, 1, []), (98, .iload_n 0, 1, []), (99, .iload_n 1, 1, []), (100, .invokespecial 304, 3, [3, 114, 2, 0, 0]), (103, .areturn, 1, []), (104, .new 305, 3, [9]), (107, .dup, 1, []), (108, .iload_n 0, 1, []), (109, .iload_n 1, 1, []), (110, .invokespecial 307, 3, [3, 131, 2, 0, 0]), (113, .areturn, 1, []), (114, .new 33, 3, [0]), (117, .dup, 1, []), (118, .iload_n 0, 1, []), (119, .iload_n 1, 1, []), (120, .invokespecial 308, 3, [3, 80, 2, 0, 0]), (123, .areturn, 1, [])]
def xm_182 : xM := (yX11_carrierOf, cX11_carrierOf, 2, 3, 16, (Option.some (Jvm.ClassFile.FieldType.object "OncePerRoad$Carrier")), xk_182, [])
def xMeth : List xM := [xm_0, xm_1, xm_2, xm_3, xm_4, xm_5, xm_6, xm_7, xm_8, xm_9, xm_10, xm_11, xm_12, xm_13, xm_14, xm_15, xm_16, xm_17, xm_18, xm_19, xm_20, xm_21, xm_22, xm_23, xm_24, xm_25, xm_26, xm_27, xm_28, xm_29, xm_30, xm_31, xm_32, xm_33, xm_34, xm_35, xm_36, xm_37, xm_38, xm_39, xm_40, xm_41, xm_42, xm_43, xm_44, xm_45, xm_46, xm_47, xm_48, xm_49, xm_50, xm_51, xm_52, xm_53, xm_54, xm_55, xm_56, xm_57, xm_58, xm_59, xm_60, xm_61, xm_62, xm_63, xm_64, xm_65, xm_66, xm_67, xm_68, xm_69, xm_70, xm_71, xm_72, xm_73, xm_74, xm_75, xm_76, xm_77, xm_78, xm_79, xm_80, xm_81, xm_82, xm_83, xm_84, xm_85, xm_86, xm_87, xm_88, xm_89, xm_90, xm_91, xm_92, xm_93, xm_94, xm_95, xm_96, xm_97, xm_98, xm_99, xm_100, xm_101, xm_102, xm_103, xm_104, xm_105, xm_106, xm_107, xm_108, xm_109, xm_110, xm_111, xm_112, xm_113, xm_114, xm_115, xm_116, xm_117, xm_118, xm_119, xm_120, xm_121, xm_122, xm_123, xm_124, xm_125, xm_126, xm_127, xm_128, xm_129, xm_130, xm_131, xm_132, xm_133, xm_134, xm_135, xm_136, xm_137, xm_138, xm_139, xm_140, xm_141, xm_142, xm_143, xm_144, xm_145, xm_146, xm_147, xm_148, xm_149, xm_150, xm_151, xm_152, xm_153, xm_154, xm_155, xm_156, xm_157, xm_158, xm_159, xm_160, xm_161, xm_162, xm_163, xm_164, xm_165, xm_166, xm_167, xm_168, xm_169, xm_170, xm_171, xm_172, xm_173, xm_174, xm_175, xm_176, xm_177, xm_178, xm_179, xm_180, xm_181, xm_182]
/-- which method a carrier of a class runs: by number of the selector (0 loads, 1 mayGo, 2 leaves, 3 weightOf, 4 mostRoads, 5 pay) and of the class -/
def xvt (sel c : Nat) : Nat := (([[81, 81, 0, 112, 115, 81, 81, 0, 81, 81, 0, 0, 0], [82, 88, 0, 82, 82, 82, 82, 0, 82, 82, 0, 0, 0], [83, 89, 0, 83, 83, 83, 83, 0, 83, 83, 0, 0, 0], [84, 84, 0, 84, 116, 119, 122, 0, 129, 119, 0, 0, 0], [85, 85, 0, 85, 85, 85, 85, 0, 85, 132, 0, 0, 0], [86, 90, 0, 113, 117, 120, 86, 0, 130, 133, 0, 0, 0]] : List (List Nat)).getD sel []).getD c 0
end
section
/-! THE ABSTRACT MACHINE: values, states, one step, a run (own text; NOTES.md says what each is for) -/
abbrev xV : Type := Int32 ⊕ Int64 ⊕ (Nat × Option Nat)
abbrev xL : Type := List (Option xV)
/-- ints by region, number, place; longs; references (numbers in the region that the place leads to); the carriers' classes; cells and slots used -/
abbrev xS : Type := (Nat → Nat → Nat → Int32) × (Nat → Nat → Nat → Int64) × (Nat → Nat → Nat → Option Nat) × List Nat × Nat × Nat
abbrev xC : Type := Nat × Nat × xL × List xV × xS
abbrev xR : Type := (Int32 × Int64 × Option Nat) × xS
abbrev xD : Type := (Σ' p : Prop, Decidable p)
abbrev xB : Type := List (xD × Option xC) × Option xC
abbrev xO : Type := xR ⊕ (Option Nat × (Nat → xB)) ⊕ (Option Nat × (Nat → xC) × (xR → xC))
abbrev rI (σ : xS) (r i k : Nat) : Int32 := σ.1 r i k
abbrev rL (σ : xS) (r i k : Nat) : Int64 := σ.2.1 r i k
abbrev rP (σ : xS) (r i k : Nat) : Option Nat := σ.2.2.1 r i k
abbrev rC (σ : xS) : List Nat := σ.2.2.2.1
def wR (σ : xS) (r i : Nat) (f : Nat → Int32) : xS := (fun r' i' => if r' = r ∧ i' = i then f else σ.1 r' i', σ.2)
def wI (σ : xS) (r i k : Nat) (v : Int32) : xS := wR σ r i (fun k' => if k' = k then v else σ.1 r i k')
def wL (σ : xS) (r i k : Nat) (v : Int64) : xS := (σ.1, fun r' i' k' => if r' = r ∧ i' = i ∧ k' = k then v else σ.2.1 r' i' k', σ.2.2)
def wP (σ : xS) (r i k : Nat) (v : Option Nat) : xS := (σ.1, σ.2.1, fun r' i' k' => if r' = r ∧ i' = i ∧ k' = k then v else σ.2.2.1 r' i' k', σ.2.2.2)
def wC (σ : xS) (c : Nat) : xS := (fun r' i' => if r' = 16 ∧ i' = σ.2.2.2.1.length then (fun _ => 0) else σ.1 r' i', σ.2.1, σ.2.2.1, σ.2.2.2.1 ++ [c], σ.2.2.2.2.1 + 1, σ.2.2.2.2.2 + 2)
/-- a thing's extra cells (an exception) -/
def wN (σ : xS) (a b : Nat) : xS := (σ.1, σ.2.1, σ.2.2.1, σ.2.2.2.1, σ.2.2.2.2.1 + a, σ.2.2.2.2.2 + b)
def xget : xL → Nat → Option xV
  | [], _ => none
  | a :: _, 0 => a
  | _ :: l, n + 1 => xget l n
def xset : xL → Nat → Option xV → xL
  | [], _, _ => []
  | _ :: l, 0, v => v :: l
  | a :: l, n + 1, v => a :: xset l n v
/-- the same list, written out -/
def xforce {α : Type} : xL → (xL → α) → α
  | [], k => k []
  | a :: l, k => xforce l (fun r => k (a :: r))
theorem xforce_eq {α : Type} : ∀ (l : xL) (k : xL → α), xforce l k = k l
  | [], _ => rfl
  | a :: l, k => xforce_eq l (fun r => k (a :: r))
/-- a store at a place: a long that ended there is gone -/
def xclr (ls : xL) : Nat → xL
  | 0 => ls
  | j + 1 => match xget ls j with
    | some (.inr (.inl _)) => xset ls j none
    | _ => ls
def xput (ls : xL) (i : Nat) (v : xV) : xL := xset (xclr ls i) i (some v)
def xkill : List Nat → xL → xL
  | [], ls => ls
  | k :: ks, ls => xkill ks (xset ls k none)
def xkills : List (Nat × List Nat) → Nat → List Nat
  | [], _ => []
  | (p, ks) :: r, pc => bif Nat.beq p pc then ks else xkills r pc
def xcat (v : xV) : Nat := match v with
  | .inr (.inl _) => 2
  | _ => 1
def xwords : List xV → Nat
  | [] => 0
  | v :: r => xcat v + xwords r
def xpad : Nat → List xV → xL
  | n, [] => List.replicate n none
  | n, .inl x :: r => some (.inl x) :: xpad (n - 1) r
  | n, .inr (.inl x) :: r => some (.inr (.inl x)) :: none :: xpad (n - 2) r
  | n, .inr (.inr x) :: r => some (.inr (.inr x)) :: xpad (n - 1) r
/-- the top n of a stack, the deepest first -/
def xtake : Nat → List xV → List xV → Option (List xV × List xV)
  | 0, st, acc => some (acc, st)
  | _ + 1, [], _ => none
  | n + 1, v :: st, acc => xtake n st (v :: acc)
/-- a region: its tag (0 object, 1 ints, 2 longs, 3 references, 4 fixed references, 5 the script), class or length, how many there are, its slots (kind 0 int, 1 long, 2 fixed reference, 3 reference, 4 boolean; region; added) -/
def xreg (r : Nat) : Nat × Nat × Nat × List (Nat × Nat × Nat) := xReg.getD r (9, 0, 0, [])
def xslot (r k : Nat) : Nat × Nat × Nat := (xreg r).2.2.2.getD k (9, 0, 0)
def xinD (x : Int32) (n : Nat) : xD := ⟨¬ (x < 0 ∨ n ≤ x.toNatClampNeg), inferInstance⟩
/-- a written number -/
def xk (n : Int) : Int32 := match n with
  | .ofNat k => nI k
  | .negSucc k => -nI (k + 1)
def xkI (n : Int) (f : Int32 → Option xO) : Option xO := match n with
  | .ofNat k => f (nI k)
  | .negSucc k => f (-nI (k + 1))
theorem xkI_eq (n : Int) (f : Int32 → Option xO) : xkI n f = f (xk n) := by cases n <;> rfl
def xcmp (c : ClassFile.Cond) (x y : Int32) : xD := match c with
  | .eq => ⟨x = y, inferInstance⟩
  | .ne => ⟨¬ x = y, inferInstance⟩
  | .lt => ⟨x < y, inferInstance⟩
  | .ge => ⟨y ≤ x, inferInstance⟩
  | .gt => ⟨y < x, inferInstance⟩
  | .le => ⟨x ≤ y, inferInstance⟩
/-- what toss answers -/
def xToss (σ : xS) (d : Int32) : Int32 :=
  if d < 0 ∨ 8 ≤ d then -1 else if rI σ 11 0 d.toNatClampNeg = 0 then -11 else if ¬ rI σ 11 0 d.toNatClampNeg = 1 then -12 else
  match rP σ 12 0 d.toNatClampNeg with
  | none => 0
  | some i => if (rC σ).getD i 0 = 1 ∨ rI σ 16 i 1 = 0 then -15 else if (rC σ).getD i 0 = 8 then 100 + rI σ 16 i 1 else if (rC σ).getD i 0 = 4 then 200 + 2 * (5 + 2 * rI σ 16 i 1) else rI σ 16 i 1
/-- what the law's element answers, and what it lays into out -/
def xElem (σ : xS) (d i : Int32) : Int32 × xS :=
  if d < 0 ∨ 8 ≤ d then (1, wN σ 1 8) else if ¬ rI σ 11 0 d.toNatClampNeg = 2 ∨ i < 0 ∨ rI σ 14 d.toNatClampNeg 2 ≤ i ∨ 100 ≤ i then (2, wN σ 1 8) else
  (0, wL (wN σ 1 8) 35 0 0 (rI σ 15 d.toNatClampNeg i.toNatClampNeg).toInt64)
def xgo (ks : List (Nat × List Nat)) (y pc : Nat) (ls : xL) (st : List xV) (σ : xS) : Option xC := match xkills ks pc with
  | [] => some (y, pc, ls, st, σ)
  | a :: r => xforce (xkill (a :: r) ls) fun l => some (y, pc, l, st, σ)
def xopt (o : Option Nat) (f : Nat → xB) : Option xO := some (.inr (.inl (o, f)))
def xjust (c : Option xC) : Option xO := xopt (some 0) (fun _ => ([], c))
def xguard (p : xD) (c : Option xC) : Option xO := xopt (some 0) (fun _ => ([(p, c)], none))
def xif (p : xD) (c d : Option xC) : Option xO := xopt (some 0) (fun _ => ([(p, c)], d))
def xmeth (y : Nat) : xM := xMeth.getD y xM0
def xentry (y : Nat) (as : List xV) (σ : xS) : xC := (y, 0, xpad (xmeth y).2.2.1 as, [], σ)
def xpush (k r : Nat) (v : Int32 × Int64 × Option Nat) (st : List xV) : List xV := match k with
  | 0 => st
  | 1 => .inl v.1 :: st
  | 2 => .inr (.inl v.2.1) :: st
  | _ => .inr (.inr (r, v.2.2)) :: st
/-- the cases of a switch: key, place, key, place .. -/
def xsw (ks : List (Nat × List Nat)) (y : Nat) (ls : xL) (st : List xV) (σ : xS) (x : Int32) : List Nat → List (xD × Option xC)
  | k :: t :: r => (⟨x = nI k, inferInstance⟩, xgo ks y t ls st σ) :: xsw ks y ls st σ x r
  | _ => []
def xresume (ks : List (Nat × List Nat)) (y pc : Nat) (ls : xL) (k r : Nat) (st : List xV) : xR → xC := match xkills ks pc with
  | [] => fun q => (y, pc, ls, xpush k r q.1 st, q.2)
  | a :: ra => fun q => xforce (xkill (a :: ra) ls) fun l => (y, pc, l, xpush k r q.1 st, q.2)
/-- a call of the class's or the law's own methods -/
def xstatic (ks : List (Nat × List Nat)) (y pc : Nat) (aux : List Nat) (ls : xL) (st : List xV) (σ : xS) : Option xO :=
  match aux with
  | [0, y1, n, k, r] => match xtake n st [] with
    | some (as, st') => bif Nat.ble (xwords st') 16 then some (.inr (.inr (some 0, fun _ => xentry y1 as σ, xresume ks y (pc + 3) ls k r st'))) else none
    | none => none
  | [5] => match st with
    | .inl n :: .inl dp :: .inr (.inr (r1, some i1)) :: .inl sp :: .inr (.inr (r0, some i0)) :: st' =>
      bif Nat.beq (xreg r1).1 1 && Nat.beq (xreg r0).1 1 && Nat.ble (xwords st') 16 then
        xguard ⟨¬ sp < 0 ∧ ¬ dp < 0 ∧ ¬ n < 0 ∧ sp.toNatClampNeg + n.toNatClampNeg ≤ (xreg r0).2.1 ∧ dp.toNatClampNeg + n.toNatClampNeg ≤ (xreg r1).2.1, inferInstance⟩
          (xgo ks y (pc + 3) ls st' (wR σ r1 i1 (va_cpy (σ.1 r0 i0) (σ.1 r1 i1) sp.toNatClampNeg dp.toNatClampNeg n.toNatClampNeg)))
      else none
    | _ => none
  | [7] => match st with
    | .inr (.inr (35, some 0)) :: .inl i :: .inl d :: .inr (.inr (0, some 0)) :: st' => bif Nat.ble (xwords st') 16 then xjust (xgo ks y (pc + 3) ls (.inl (xElem σ d i).1 :: st') (xElem σ d i).2) else none
    | _ => none
  | _ => none
def xvirtual (ks : List (Nat × List Nat)) (y pc : Nat) (aux : List Nat) (ls : xL) (st : List xV) (σ : xS) : Option xO :=
  match aux with
  | [1, y1, c, n, k, r] => match xtake n st [] with
    | some (as, .inr (.inr (ro, o)) :: st') => bif Nat.ble (xwords st') 16 && Nat.beq (xreg ro).2.1 c && Nat.beq (xreg ro).1 0 then
        some (.inr (.inr (o, fun i => xentry y1 (.inr (.inr (ro, some i)) :: as) σ, xresume ks y (pc + 3) ls k r st'))) else none
    | _ => none
  | [2, sel, n, k, r] => match xtake n st [] with
    | some (as, .inr (.inr (ro, o)) :: st') => bif Nat.ble (xwords st') 16 && Nat.beq ro 16 then
        some (.inr (.inr (o, fun i => xentry (xvt sel ((rC σ).getD i 0)) (.inr (.inr (16, some i)) :: as) σ, xresume ks y (pc + 3) ls k r st'))) else none
    | _ => none
  | [6] => match st with
    | .inl d :: .inr (.inr (0, some 0)) :: st' => bif Nat.ble (xwords st') 16 then xjust (xgo ks y (pc + 3) ls (.inl (xToss σ d) :: st') (wN σ 1 8)) else none
    | _ => none
  | _ => none
def xspecial (ks : List (Nat × List Nat)) (y pc : Nat) (aux : List Nat) (ls : xL) (st : List xV) (σ : xS) : Option xO :=
  match aux with
  | [3, y1, n, k, r] => match xtake n st [] with
    | some (as, .inr (.inr (ro, some i)) :: st') => bif Nat.ble (xwords st') 16 && Nat.beq ro 16 then
        some (.inr (.inr (some 0, fun _ => xentry y1 (.inr (.inr (16, some i)) :: as) σ, xresume ks y (pc + 3) ls k r st'))) else none
    | _ => none
  | [4] => match st with
    | .inr (.inr (ro, some i)) :: st' => bif Nat.ble (xwords st') 16 && Nat.beq ro 16 then xjust (xgo ks y (pc + 3) ls st' σ) else none
    | _ => none
  | _ => none
/-- reading and writing a place of an object -/
def xgetf (ks : List (Nat × List Nat)) (y pc : Nat) (aux : List Nat) (ls : xL) (st : List xV) (σ : xS) : Option xO :=
  match aux, st with
  | [c, k], .inr (.inr (r, o)) :: st' => bif Nat.beq (xreg r).1 0 && Nat.beq (xreg r).2.1 c then
      match xslot r k with
      | (0, _, _) => xopt o (fun i => ([], xgo ks y (pc + 3) ls (.inl (rI σ r i k) :: st') σ))
      | (4, _, _) => xopt o (fun i => ([], xgo ks y (pc + 3) ls (.inl (rI σ r i k) :: st') σ))
      | (1, _, _) => xopt o (fun i => ([], xgo ks y (pc + 3) ls (.inr (.inl (rL σ r i k)) :: st') σ))
      | (2, r', a) => xopt o (fun i => ([], xgo ks y (pc + 3) ls (.inr (.inr (r', some (i + a))) :: st') σ))
      | (3, r', _) => xopt o (fun i => ([], xgo ks y (pc + 3) ls (.inr (.inr (r', rP σ r i k)) :: st') σ))
      | _ => none
    else none
  | _, _ => none
def xputf (ks : List (Nat × List Nat)) (y pc : Nat) (aux : List Nat) (ls : xL) (st : List xV) (σ : xS) : Option xO :=
  match aux, st with
  | [c, k], v :: .inr (.inr (r, o)) :: st' => bif Nat.beq (xreg r).1 0 && Nat.beq (xreg r).2.1 c then
      match xslot r k, v with
      | (0, _, _), .inl x => xopt o (fun i => ([], xgo ks y (pc + 3) ls st' (wI σ r i k x)))
      | (4, _, _), .inl x => xopt o (fun i => ([(⟨x = 0 ∨ x = 1, inferInstance⟩, xgo ks y (pc + 3) ls st' (wI σ r i k x))], none))
      | (1, _, _), .inr (.inl x) => xopt o (fun i => ([], xgo ks y (pc + 3) ls st' (wL σ r i k x)))
      | (3, r', _), .inr (.inr (r1, x)) => bif Nat.beq r1 r' then xopt o (fun i => ([], xgo ks y (pc + 3) ls st' (wP σ r i k x))) else none
      | _, _ => none
    else none
  | _, _ => none
/-- conditional jumps, what a comparison leaves -/
def xcmpL (x y : Int64) : Int32 := lg_cmp x y
def xstep (rk rr : Nat) (ks : List (Nat × List Nat)) (y : Nat) (e : xE) (ls : xL) (st : List xV) (σ : xS) : Option xO :=
  match e with
  | (pc, ins, len, aux) =>
  match ins with
  | .iconst n => xkI n fun v => xjust (xgo ks y (pc + 1) ls (.inl v :: st) σ)
  | .bipush n => xkI n fun v => xjust (xgo ks y (pc + 2) ls (.inl v :: st) σ)
  | .sipush n => xkI n fun v => xjust (xgo ks y (pc + 3) ls (.inl v :: st) σ)
  | .lconst n => xjust (xgo ks y (pc + 1) ls (.inr (.inl (lN n.val)) :: st) σ)
  | .ldc _ => match aux with | [v] => xjust (xgo ks y (pc + 2) ls (.inl (nI v) :: st) σ) | _ => none
  | .ldc_w _ => match aux with | [v] => xjust (xgo ks y (pc + 3) ls (.inl (nI v) :: st) σ) | _ => none
  | .ldc2_w _ => match aux with | [v] => xjust (xgo ks y (pc + 3) ls (.inr (.inl (lN v)) :: st) σ) | _ => none
  | .aconst_null => match aux with | [r] => xjust (xgo ks y (pc + 1) ls (.inr (.inr (r, none)) :: st) σ) | _ => none
  | .iload_n k => match xget ls k.val with | some (.inl x) => xjust (xgo ks y (pc + 1) ls (.inl x :: st) σ) | _ => none
  | .iload k => match xget ls k with | some (.inl x) => xjust (xgo ks y (pc + 2) ls (.inl x :: st) σ) | _ => none
  | .lload_n k => match xget ls k.val with | some (.inr (.inl x)) => xjust (xgo ks y (pc + 1) ls (.inr (.inl x) :: st) σ) | _ => none
  | .lload k => match xget ls k with | some (.inr (.inl x)) => xjust (xgo ks y (pc + 2) ls (.inr (.inl x) :: st) σ) | _ => none
  | .aload_n k => match xget ls k.val with | some (.inr (.inr x)) => xjust (xgo ks y (pc + 1) ls (.inr (.inr x) :: st) σ) | _ => none
  | .aload k => match xget ls k with | some (.inr (.inr x)) => xjust (xgo ks y (pc + 2) ls (.inr (.inr x) :: st) σ) | _ => none
  | .istore_n k => match st with | .inl x :: st' => xforce (xput ls k.val (.inl x)) fun l => xjust (xgo ks y (pc + 1) l st' σ) | _ => none
  | .istore k => match st with | .inl x :: st' => xforce (xput ls k (.inl x)) fun l => xjust (xgo ks y (pc + 2) l st' σ) | _ => none
  | .lstore_n k => match st with | .inr (.inl x) :: st' => xforce (xset (xput ls k.val (.inr (.inl x))) (k.val + 1) none) fun l => xjust (xgo ks y (pc + 1) l st' σ) | _ => none
  | .lstore k => match st with | .inr (.inl x) :: st' => xforce (xset (xput ls k (.inr (.inl x))) (k + 1) none) fun l => xjust (xgo ks y (pc + 2) l st' σ) | _ => none
  | .astore_n k => match st with | .inr (.inr x) :: st' => xforce (xput ls k.val (.inr (.inr x))) fun l => xjust (xgo ks y (pc + 1) l st' σ) | _ => none
  | .astore k => match st with | .inr (.inr x) :: st' => xforce (xput ls k (.inr (.inr x))) fun l => xjust (xgo ks y (pc + 2) l st' σ) | _ => none
  | .iinc k n => match xget ls k with | some (.inl x) => xkI n fun v => xforce (xput ls k (.inl (x + v))) fun l => xjust (xgo ks y (pc + 3) l st σ) | _ => none
  | .iadd => match st with | .inl b :: .inl a :: st' => xjust (xgo ks y (pc + 1) ls (.inl (a + b) :: st') σ) | _ => none
  | .isub => match st with | .inl b :: .inl a :: st' => xjust (xgo ks y (pc + 1) ls (.inl (a - b) :: st') σ) | _ => none
  | .imul => match st with | .inl b :: .inl a :: st' => xjust (xgo ks y (pc + 1) ls (.inl (a * b) :: st') σ) | _ => none
  | .idiv => match st with | .inl b :: .inl a :: st' => xguard ⟨¬ b = 0, inferInstance⟩ (xgo ks y (pc + 1) ls (.inl (a / b) :: st') σ) | _ => none
  | .irem => match st with | .inl b :: .inl a :: st' => xguard ⟨¬ b = 0, inferInstance⟩ (xgo ks y (pc + 1) ls (.inl (a - a / b * b) :: st') σ) | _ => none
  | .iand => match st with | .inl b :: .inl a :: st' => xjust (xgo ks y (pc + 1) ls (.inl (a &&& b) :: st') σ) | _ => none
  | .ior => match st with | .inl b :: .inl a :: st' => xjust (xgo ks y (pc + 1) ls (.inl (a ||| b) :: st') σ) | _ => none
  | .ixor => match st with | .inl b :: .inl a :: st' => xjust (xgo ks y (pc + 1) ls (.inl (a ^^^ b) :: st') σ) | _ => none
  | .ishl => match st with | .inl b :: .inl a :: st' => xjust (xgo ks y (pc + 1) ls (.inl (a <<< (b &&& 31)) :: st') σ) | _ => none
  | .ishr => match st with | .inl b :: .inl a :: st' => xjust (xgo ks y (pc + 1) ls (.inl (a >>> (b &&& 31)) :: st') σ) | _ => none
  | .iushr => match st with | .inl b :: .inl a :: st' => xjust (xgo ks y (pc + 1) ls (.inl (a.toUInt32 >>> (b.toUInt32 &&& Int32.toUInt32 31)).toInt32 :: st') σ) | _ => none
  | .ladd => match st with | .inr (.inl b) :: .inr (.inl a) :: st' => xjust (xgo ks y (pc + 1) ls (.inr (.inl (a + b)) :: st') σ) | _ => none
  | .lsub => match st with | .inr (.inl b) :: .inr (.inl a) :: st' => xjust (xgo ks y (pc + 1) ls (.inr (.inl (a - b)) :: st') σ) | _ => none
  | .land => match st with | .inr (.inl b) :: .inr (.inl a) :: st' => xjust (xgo ks y (pc + 1) ls (.inr (.inl (a &&& b)) :: st') σ) | _ => none
  | .lor => match st with | .inr (.inl b) :: .inr (.inl a) :: st' => xjust (xgo ks y (pc + 1) ls (.inr (.inl (a ||| b)) :: st') σ) | _ => none
  | .lxor => match st with | .inr (.inl b) :: .inr (.inl a) :: st' => xjust (xgo ks y (pc + 1) ls (.inr (.inl (a ^^^ b)) :: st') σ) | _ => none
  | .lshl => match st with | .inl b :: .inr (.inl a) :: st' => xjust (xgo ks y (pc + 1) ls (.inr (.inl (a <<< (b.toInt64 &&& 63))) :: st') σ) | _ => none
  | .lshr => match st with | .inl b :: .inr (.inl a) :: st' => xjust (xgo ks y (pc + 1) ls (.inr (.inl (a >>> (b.toInt64 &&& 63))) :: st') σ) | _ => none
  | .lushr => match st with | .inl b :: .inr (.inl a) :: st' => xjust (xgo ks y (pc + 1) ls (.inr (.inl (a.toUInt64 >>> (b.toInt64.toUInt64 &&& Int64.toUInt64 63)).toInt64) :: st') σ) | _ => none
  | .lcmp => match st with | .inr (.inl b) :: .inr (.inl a) :: st' => xjust (xgo ks y (pc + 1) ls (.inl (lg_cmp a b) :: st') σ) | _ => none
  | .i2l => match st with | .inl a :: st' => xjust (xgo ks y (pc + 1) ls (.inr (.inl a.toInt64) :: st') σ) | _ => none
  | .l2i => match st with | .inr (.inl a) :: st' => xjust (xgo ks y (pc + 1) ls (.inl a.toInt32 :: st') σ) | _ => none
  | .i2b => match st with | .inl a :: st' => xjust (xgo ks y (pc + 1) ls (.inl a.toInt8.toInt32 :: st') σ) | _ => none
  | .i2s => match st with | .inl a :: st' => xjust (xgo ks y (pc + 1) ls (.inl a.toInt16.toInt32 :: st') σ) | _ => none
  | .dup => match st with
    | .inl a :: st' => xjust (xgo ks y (pc + 1) ls (.inl a :: .inl a :: st') σ)
    | .inr (.inr a) :: st' => xjust (xgo ks y (pc + 1) ls (.inr (.inr a) :: .inr (.inr a) :: st') σ)
    | _ => none
  | .dup2 => match st with
    | .inl a :: .inr (.inr b) :: st' => xjust (xgo ks y (pc + 1) ls (.inl a :: .inr (.inr b) :: .inl a :: .inr (.inr b) :: st') σ)
    | _ => none
  | .goto _ => match aux with | [t] => xjust (xgo ks y t ls st σ) | _ => none
  | .ifCond c _ => match aux, st with | [t], .inl a :: st' => xif (xcmp c a 0) (xgo ks y t ls st' σ) (xgo ks y (pc + 3) ls st' σ) | _, _ => none
  | .if_icmp c _ => match aux, st with | [t], .inl b :: .inl a :: st' => xif (xcmp c a b) (xgo ks y t ls st' σ) (xgo ks y (pc + 3) ls st' σ) | _, _ => none
  | .ifnull _ => match aux, st with | [t], .inr (.inr (_, o)) :: st' => xif ⟨o = none, inferInstance⟩ (xgo ks y t ls st' σ) (xgo ks y (pc + 3) ls st' σ) | _, _ => none
  | .ifnonnull _ => match aux, st with | [t], .inr (.inr (_, o)) :: st' => xif ⟨o = none, inferInstance⟩ (xgo ks y (pc + 3) ls st' σ) (xgo ks y t ls st' σ) | _, _ => none
  | .tableswitch _ _ _ _ => match aux, st with | t :: ts, .inl a :: st' => xopt (some 0) (fun _ => (xsw ks y ls st' σ a ts, xgo ks y t ls st' σ)) | _, _ => none
  | .lookupswitch _ _ => match aux, st with | t :: ts, .inl a :: st' => xopt (some 0) (fun _ => (xsw ks y ls st' σ a ts, xgo ks y t ls st' σ)) | _, _ => none
  | .getfield _ => xgetf ks y pc aux ls st σ
  | .putfield _ => xputf ks y pc aux ls st σ
  | .iaload => match st with
    | .inl a :: .inr (.inr (r, o)) :: st' => match xreg r with
      | (1, n, _) => xopt o (fun i => ([(xinD a n, xgo ks y (pc + 1) ls (.inl (rI σ r i a.toNatClampNeg) :: st') σ)], none))
      | (5, _) => xopt o (fun i => ([(⟨¬ a < 0 ∧ a < rI σ r i 3072, inferInstance⟩, xgo ks y (pc + 1) ls (.inl (rI σ r i a.toNatClampNeg) :: st') σ)], none))
      | _ => none
    | _ => none
  | .laload => match st with
    | .inl a :: .inr (.inr (r, o)) :: st' => match xreg r with
      | (2, n, _) => xopt o (fun i => ([(xinD a n, xgo ks y (pc + 1) ls (.inr (.inl (rL σ r i a.toNatClampNeg)) :: st') σ)], none))
      | _ => none
    | _ => none
  | .iastore => match st with
    | .inl v :: .inl a :: .inr (.inr (r, o)) :: st' => match xreg r with
      | (1, n, _) => xopt o (fun i => ([(xinD a n, xgo ks y (pc + 1) ls st' (wI σ r i a.toNatClampNeg v))], none))
      | _ => none
    | _ => none
  | .aaload => match st with
    | .inl a :: .inr (.inr (r, o)) :: st' => match xreg r with
      | (3, n, _, [(r', _)]) => xopt o (fun i => ([(xinD a n, xgo ks y (pc + 1) ls (.inr (.inr (r', rP σ r i a.toNatClampNeg)) :: st') σ)], none))
      | (4, n, _, [(r', _)]) => xopt o (fun _ => ([(xinD a n, xgo ks y (pc + 1) ls (.inr (.inr (r', some a.toNatClampNeg)) :: st') σ)], none))
      | _ => none
    | _ => none
  | .aastore => match st with
    | .inr (.inr (r1, v)) :: .inl a :: .inr (.inr (r, o)) :: st' => match xreg r with
      | (3, n, _, [(r', _)]) => bif Nat.beq r1 r' then xopt o (fun i => ([(xinD a n, xgo ks y (pc + 1) ls st' (wP σ r i a.toNatClampNeg v))], none)) else none
      | _ => none
    | _ => none
  | .arraylength => match st with
    | .inr (.inr (r, o)) :: st' => match xreg r with
      | (1, n, _) => xopt o (fun _ => ([], xgo ks y (pc + 1) ls (.inl (nI n) :: st') σ))
      | (5, _) => xopt o (fun i => ([], xgo ks y (pc + 1) ls (.inl (rI σ r i 3072) :: st') σ))
      | _ => none
    | _ => none
  | .new _ => match aux with | [c] => xjust (xgo ks y (pc + 3) ls (.inr (.inr (16, some (rC σ).length)) :: st) (wC σ c)) | _ => none
  | .invokestatic _ => xstatic ks y pc aux ls st σ
  | .invokevirtual _ => xvirtual ks y pc aux ls st σ
  | .invokespecial _ => xspecial ks y pc aux ls st σ
  | .ireturn => match st with | .inl a :: [] => bif Nat.beq rk 1 then some (.inl ((a, 0, none), σ)) else none | _ => none
  | .lreturn => match st with | .inr (.inl a) :: [] => bif Nat.beq rk 2 then some (.inl ((0, a, none), σ)) else none | _ => none
  | .areturn => match st with | .inr (.inr (r, o)) :: [] => bif Nat.beq rk 3 && Nat.beq rr r then some (.inl ((0, 0, o), σ)) else none | _ => none
  | .return_ => match st with | [] => bif Nat.beq rk 0 then some (.inl ((0, 0, none), σ)) else none | _ => none
  | _ => none
/-- the entry of a method's code at a place, and what stands from there on -/
def xfrom : List xE → Nat → List xE
  | [], _ => []
  | e :: l, pc => bif Nat.beq e.1 pc then e :: l else xfrom l pc
def xat (c : xC) : Option xO := match xfrom (xmeth c.1).2.2.2.2.2.2.1 c.2.1 with
  | [] => none
  | e :: _ => xstep (xmeth c.1).2.2.2.1 (xmeth c.1).2.2.2.2.1 (xmeth c.1).2.2.2.2.2.2.2 c.1 e c.2.2.1 c.2.2.2.1 c.2.2.2.2
def xob (o : Option Nat) (f : Nat → Option xR) : Option xR := match o with
  | none => none
  | some i => f i
theorem xob_iff {o : Option Nat} {f : Nat → Option xR} {r : xR} : xob o f = some r ↔ ∃ i, o = some i ∧ f i = some r := by
  cases o with
  | none => exact ⟨fun h => (by cases h), fun ⟨i, h, _⟩ => (by cases h)⟩
  | some i => exact ⟨fun h => ⟨i, rfl, h⟩, fun ⟨j, h, g⟩ => by cases h; exact g⟩
def xsel (f : xC → Option xR) : List (xD × Option xC) → Option xC → Option xR
  | [], none => none
  | [], some c => f c
  | (p, none) :: l, df => @ite _ p.1 p.2 none (xsel f l df)
  | (p, some c) :: l, df => @ite _ p.1 p.2 (f c) (xsel f l df)
def xbody (f : Nat → xC → Option xR) (d : Nat) (c : xC) : Option xR := match xat c with
  | none => none
  | some (.inl r) => some r
  | some (.inr (.inl (o, g))) => xob o fun i => xsel (f d) (g i).1 (g i).2
  | some (.inr (.inr (o, g, k))) => match d with
    | 0 => none
    | d + 1 => xob o fun i => (f d (g i)).bind fun q => f (d + 1) (k q)
def exD : Nat → Nat → xC → Option xR
  | 0, _, _ => none
  | n + 1, d, c => xbody (exD n) d c
/-! ===== what more fuel gives ===== -/
theorem xsel_mono {f g : xC → Option xR} (h : ∀ c r, f c = some r → g c = some r) : ∀ (l : List (xD × Option xC)) (df : Option xC) (r : xR), xsel f l df = some r → xsel g l df = some r
  | [], none, r, e => by cases e
  | [], some c, r, e => h c r e
  | (p, none) :: l, df, r, e => by
    obtain ⟨p, dp⟩ := p
    unfold xsel at e ⊢
    by_cases hp : p
    · simp [hp] at e
    · simp only [hp, if_false, ite_false] at e ⊢
      exact xsel_mono h l df r e
  | (p, some c) :: l, df, r, e => by
    obtain ⟨p, dp⟩ := p
    unfold xsel at e ⊢
    by_cases hp : p
    · simp only [hp, if_true, ite_true] at e ⊢
      exact h c r e
    · simp only [hp, if_false, ite_false] at e ⊢
      exact xsel_mono h l df r e
theorem xbody_mono {f g : Nat → xC → Option xR} (h : ∀ d c r, f d c = some r → g d c = some r) (d : Nat) (c : xC) (r : xR) (e : xbody f d c = some r) : xbody g d c = some r := by
  unfold xbody at e ⊢
  cases hx : xat c with
  | none => rw [hx] at e; cases e
  | some o =>
    rw [hx] at e
    rcases o with o | ⟨o, b⟩ | ⟨o, b, k⟩
    · exact e
    · obtain ⟨i, hi, e⟩ := xob_iff.mp e
      exact xob_iff.mpr ⟨i, hi, xsel_mono (h d) _ _ _ e⟩
    · cases d with
      | zero => cases e
      | succ d =>
        obtain ⟨i, hi, e⟩ := xob_iff.mp e
        obtain ⟨q, hq, e⟩ := Option.bind_eq_some_iff.mp e
        exact xob_iff.mpr ⟨i, hi, Option.bind_eq_some_iff.mpr ⟨q, h _ _ _ hq, h _ _ _ e⟩⟩
theorem exD_succ (n d : Nat) (c : xC) (r : xR) : ∀ (h : exD n d c = some r), exD (n + 1) d c = some r := by
  induction n generalizing d c r with
  | zero => intro h; cases h
  | succ n ih => intro h; exact xbody_mono (fun d c r e => ih d c r e) d c r h
theorem exD_le {n m d : Nat} {c : xC} {r : xR} (h : exD n d c = some r) (hm : n ≤ m) : exD m d c = some r := by
  induction hm with
  | refl => exact h
  | step _ ih => exact exD_succ _ _ _ _ ih
/-- a run: what enough fuel gives -/
noncomputable def run (d : Nat) (c : xC) : Option xR := @dite _ (∃ n, (exD n d c).isSome = true) (Classical.propDecidable _) (fun h => exD (Classical.choose h) d c) (fun _ => none)
theorem run_iff {d : Nat} {c : xC} {r : xR} : run d c = some r ↔ ∃ n, exD n d c = some r := by
  unfold run
  by_cases h : ∃ n, (exD n d c).isSome = true
  · rw [dif_pos h]
    refine ⟨fun e => ⟨_, e⟩, fun ⟨n, e⟩ => ?_⟩
    have h1 := Classical.choose_spec h
    obtain ⟨r1, h1⟩ := Option.isSome_iff_exists.mp h1
    have a := exD_le h1 (Nat.le_max_left (Classical.choose h) n)
    have b := exD_le e (Nat.le_max_right (Classical.choose h) n)
    rw [h1]
    exact a.symm.trans b
  · rw [dif_neg h]
    exact ⟨fun e => (by cases e), fun ⟨n, e⟩ => absurd ⟨n, by rw [e]; rfl⟩ h⟩
theorem run_eq (d : Nat) (c : xC) : run d c = xbody run d c := by
  have key : ∀ r, run d c = some r ↔ xbody run d c = some r := by
    intro r
    constructor
    · intro h
      obtain ⟨n, h⟩ := run_iff.mp h
      cases n with
      | zero => cases h
      | succ n => exact xbody_mono (fun d c r e => run_iff.mpr ⟨n, e⟩) d c r h
    · intro h
      unfold xbody at h
      cases hx : xat c with
      | none => rw [hx] at h; cases h
      | some o =>
        rw [hx] at h
        rcases o with o | ⟨o, b⟩ | ⟨o, b, k⟩
        · refine run_iff.mpr ⟨1, ?_⟩
          show xbody (exD 0) d c = some r
          unfold xbody
          rw [hx]
          exact h
        · obtain ⟨i, hi, h⟩ := xob_iff.mp h
          have hs : ∀ (l : List (xD × Option xC)) (df : Option xC), xsel (run d) l df = some r → ∃ n, xsel (exD n d) l df = some r := by
            intro l df
            induction l with
            | nil => cases df with
              | none => intro e; cases e
              | some c => intro e; exact run_iff.mp e
            | cons p l ih =>
              obtain ⟨⟨p, dp⟩, c⟩ := p
              cases c with
              | none =>
                intro e
                unfold xsel at e
                by_cases hp : p
                · simp [hp] at e
                · simp only [hp, if_false, ite_false] at e
                  obtain ⟨n, e⟩ := ih e
                  exact ⟨n, by unfold xsel; simp only [hp, if_false, ite_false]; exact e⟩
              | some c =>
                intro e
                unfold xsel at e
                by_cases hp : p
                · simp only [hp, if_true, ite_true] at e
                  obtain ⟨n, e⟩ := run_iff.mp e
                  exact ⟨n, by unfold xsel; simp only [hp, if_true, ite_true]; exact e⟩
                · simp only [hp, if_false, ite_false] at e
                  obtain ⟨n, e⟩ := ih e
                  exact ⟨n, by unfold xsel; simp only [hp, if_false, ite_false]; exact e⟩
          obtain ⟨n, h⟩ := hs _ _ h
          refine run_iff.mpr ⟨n + 1, ?_⟩
          show xbody (exD n) d c = some r
          unfold xbody
          rw [hx]
          exact xob_iff.mpr ⟨i, hi, h⟩
        · cases d with
          | zero => cases h
          | succ d =>
            obtain ⟨i, hi, h⟩ := xob_iff.mp h
            obtain ⟨q, hq, h⟩ := Option.bind_eq_some_iff.mp h
            obtain ⟨n1, hq⟩ := run_iff.mp hq
            obtain ⟨n2, h⟩ := run_iff.mp h
            refine run_iff.mpr ⟨max n1 n2 + 1, ?_⟩
            show xbody (exD (max n1 n2)) (d + 1) c = some r
            unfold xbody
            rw [hx]
            exact xob_iff.mpr ⟨i, hi, Option.bind_eq_some_iff.mpr ⟨q, exD_le hq (Nat.le_max_left _ _), exD_le h (Nat.le_max_right _ _)⟩⟩
  cases h1 : run d c with
  | none =>
    cases h2 : xbody run d c with
    | none => rfl
    | some r => rw [(key r).mpr h2] at h1; cases h1
  | some r => exact ((key r).mp h1).symm
/-! ===== blocks: from one head to the next ones ===== -/
def xmem (n : Nat) : List Nat → Bool
  | [] => false
  | a :: l => bif Nat.beq a n then true else xmem n l
def xrem (code l : List xE) (pc : Nat) : List xE := match l with
  | [] => xfrom code pc
  | e :: r => bif Nat.beq e.1 pc then e :: r else xfrom code pc
/-- one block: instruction by instruction to the heads (stops), the calls and the answer -/
noncomputable def xblk (stops : List Nat) (d y rk rr : Nat) (ks : List (Nat × List Nat)) (code : List xE) : Nat → List xE → xL → List xV → xS → Option xR
  | 0, rem, ls, st, σ => match rem with
    | [] => none
    | e :: _ => run (d + 1) (y, e.1, ls, st, σ)
  | n + 1, rem, ls, st, σ => match rem with
    | [] => none
    | e :: l => match xstep rk rr ks y e ls st σ with
      | none => none
      | some (.inl r) => some r
      | some (.inr (.inl (o, g))) => xob o fun i => match g i with
        | (bs, df) => xsel (fun c => match c with
          | (y', pc', ls', st', σ') => bif xmem pc' stops || !Nat.beq y' y then run (d + 1) (y', pc', ls', st', σ') else xblk stops d y rk rr ks code n (xrem code l pc') ls' st' σ') bs df
      | some (.inr (.inr (o, g, k))) => xob o fun i => (run d (g i)).bind fun q => match k q with
        | (y', pc', ls', st', σ') => bif xmem pc' stops || !Nat.beq y' y then run (d + 1) (y', pc', ls', st', σ') else xblk stops d y rk rr ks code n (xrem code l pc') ls' st' σ'
theorem xfrom_hd : ∀ (l : List xE) (pc : Nat) (e : xE) (r : List xE), xfrom l pc = e :: r → e.1 = pc
  | [], _, _, _, h => by cases h
  | a :: l, pc, e, r, h => by
    unfold xfrom at h
    cases hb : Nat.beq a.1 pc with
    | true => rw [hb] at h; cases h; exact Nat.eq_of_beq_eq_true hb
    | false => rw [hb] at h; exact xfrom_hd l pc e r h

/-- the places of a code go up -/
def xup : List xE → Bool
  | [] => true
  | e :: l => (l.all fun a => Nat.blt e.1 a.1) && xup l
theorem xrem_eq : ∀ (code pre l : List xE) (pc : Nat), code = pre ++ l → xup code = true → xrem code l pc = xfrom code pc
  | code, pre, [], pc, _, _ => rfl
  | code, pre, e :: r, pc, h, hu => by
    unfold xrem
    dsimp only
    cases hb : Nat.beq e.1 pc with
    | false => rfl
    | true =>
      have hpc := Nat.eq_of_beq_eq_true hb
      subst h
      show e :: r = xfrom (pre ++ e :: r) pc
      clear hb
      induction pre with
      | nil =>
        show e :: r = bif Nat.beq e.1 pc then e :: r else xfrom r pc
        rw [hpc, Nat.beq_refl]
        rfl
      | cons a pre ih =>
        have hu2 : ((pre ++ e :: r).all fun b => Nat.blt a.1 b.1) = true ∧ xup (pre ++ e :: r) = true := by
          simpa [xup, Bool.and_eq_true] using hu
        have hlt : a.1 < e.1 := by
          have := List.all_eq_true.mp hu2.1 e (by simp)
          exact Nat.le_of_ble_eq_true this
        show e :: r = bif Nat.beq a.1 pc then a :: (pre ++ e :: r) else xfrom (pre ++ e :: r) pc
        have hne : Nat.beq a.1 pc = false := by
          cases hq : Nat.beq a.1 pc with
          | false => rfl
          | true => have := Nat.eq_of_beq_eq_true hq; omega
        rw [hne]
        exact ih hu2.2
theorem xfrom_suf : ∀ (code : List xE) (pc : Nat), ∃ pre, code = pre ++ xfrom code pc
  | [], _ => ⟨[], rfl⟩
  | e :: l, pc => by
    unfold xfrom
    cases hb : Nat.beq e.1 pc with
    | true => exact ⟨[], rfl⟩
    | false =>
      obtain ⟨pre, h⟩ := xfrom_suf l pc
      exact ⟨e :: pre, by show e :: l = e :: (pre ++ xfrom l pc); rw [← h]⟩
theorem xblk_run {y rk rr mL : Nat} {nm : MethodName} {bb : ByteArray} {rt : Option FieldType} {ks : List (Nat × List Nat)} {code : List xE} (hm : xmeth y = (nm, bb, mL, rk, rr, rt, code, ks)) (hu : xup code = true) (stops : List Nat) (d : Nat) : ∀ (n pc : Nat) (ls : xL) (st : List xV) (σ : xS), run (d + 1) (y, pc, ls, st, σ) = xblk stops d y rk rr ks code n (xfrom code pc) ls st σ := by
  intro n
  induction n with
  | zero =>
    intro pc ls st σ
    cases hx : xfrom code pc with
    | nil =>
      rw [run_eq]
      unfold xbody xat
      dsimp only
      rw [hm]
      dsimp only
      rw [hx]
      rfl
    | cons e r => rw [← xfrom_hd _ _ _ _ hx]; rfl
  | succ n ih =>
    intro pc ls st σ
    rw [run_eq]
    unfold xbody xat xblk
    dsimp only
    rw [hm]
    dsimp only
    obtain ⟨pre, hpre⟩ := xfrom_suf code pc
    cases hx : xfrom code pc with
    | nil => rfl
    | cons e r =>
      rw [hx] at hpre
      dsimp only
      have hrem : ∀ pc', xrem code r pc' = xfrom code pc' := fun pc' => xrem_eq code (pre ++ [e]) r pc' (by simpa using hpre) hu
      have key : (fun c : xC => match c with
          | (y', pc', ls', st', σ') => bif xmem pc' stops || !Nat.beq y' y then run (d + 1) (y', pc', ls', st', σ') else xblk stops d y rk rr ks code n (xrem code r pc') ls' st' σ') = run (d + 1) := by
        funext c
        obtain ⟨y', pc', ls', st', σ'⟩ := c
        dsimp only
        cases xmem pc' stops with
        | true => rfl
        | false =>
          cases hy : Nat.beq y' y with
          | false => rfl
          | true =>
            cases Nat.eq_of_beq_eq_true hy
            rw [hrem]
            exact (ih pc' ls' st' σ').symm
      cases hs : xstep rk rr ks y e ls st σ with
      | none => rfl
      | some o =>
        rcases o with o | ⟨o, b⟩ | ⟨o, b, k⟩
        · rfl
        · dsimp only
          rw [key]
        · dsimp only
          refine congrArg _ (funext fun i => congrArg _ (funext fun q => ?_))
          exact (congrFun key (k q)).symm
end
section
theorem xq_1 : xmeth 1 = (yX12_isIn, cX12_isIn, 6, 1, 0, (Option.some Jvm.ClassFile.FieldType.boolean), xk_1, []) := rfl
theorem xu_1 : xup xk_1 = true := by decide +kernel
set_option maxRecDepth 100000 in
theorem B1_0 (d : Nat) (σ : xS) (v0 : Int64) (v2 : Int64) (v4 : Int64) : run (d + 1) (xentry 1 [.inr (.inl v0), .inr (.inl v2), .inr (.inl v4)] σ) = if (lg_cmp v0 v2) < 0 then some (((nI 0), 0, none), σ) else if 0 < (lg_cmp v0 v4) then some (((nI 0), 0, none), σ) else some (((nI 1), 0, none), σ) := (xblk_run xq_1 xu_1 [] d 17 0 [some (.inr (.inl v0)), none, some (.inr (.inl v2)), none, some (.inr (.inl v4)), none] [] σ).trans rfl
theorem xq_3 : xmeth 3 = (yX12_isPlace, cX12_isPlace, 2, 1, 0, (Option.some Jvm.ClassFile.FieldType.boolean), xk_3, []) := rfl
theorem xu_3 : xup xk_3 = true := by decide +kernel
set_option maxRecDepth 100000 in
theorem B3_0 (d : Nat) (σ : xS) (v1 : Int32) : run (d + 1) (xentry 3 [.inr (.inr (17, (some 0))), .inl v1] σ) = if ¬ ((nI 0) < 0 ∨ 55 ≤ (nI 0).toNatClampNeg) then (run d (xentry 1 [.inr (.inl v1.toInt64), .inr (.inl (lN 0)), .inr (.inl ((rI σ 18 0 (nI 0).toNatClampNeg) - (nI 1)).toInt64)] σ)).bind fun q1 => some ((q1.1.1, 0, none), q1.2) else none := (xblk_run xq_3 xu_3 [] d 14 0 [some (.inr (.inr (17, (some 0)))), some (.inl v1)] [] σ).trans rfl
theorem xq_8 : xmeth 8 = (yX12_get, cX12_get, 3, 1, 0, (Option.some Jvm.ClassFile.FieldType.int), xk_8, []) := rfl
theorem xu_8 : xup xk_8 = true := by decide +kernel
set_option maxRecDepth 100000 in
theorem B8_0 (d : Nat) (σ : xS) (v1 : Int32) (v2 : Int32) : run (d + 1) (xentry 8 [.inr (.inr (17, (some 0))), .inl v1, .inl v2] σ) = if ¬ ((((nI 3) + ((nI 4) * v1)) + v2) < 0 ∨ 55 ≤ (((nI 3) + ((nI 4) * v1)) + v2).toNatClampNeg) then some (((rI σ 18 0 (((nI 3) + ((nI 4) * v1)) + v2).toNatClampNeg), 0, none), σ) else none := (xblk_run xq_8 xu_8 [] d 13 0 [some (.inr (.inr (17, (some 0)))), some (.inl v1), some (.inl v2)] [] σ).trans rfl
theorem xq_15 : xmeth 15 = (yX12_bits, cX12_bits, 3, 1, 0, (Option.some Jvm.ClassFile.FieldType.int), xk_15, [(4, [0])]) := rfl
theorem xu_15 : xup xk_15 = true := by decide +kernel
set_option maxRecDepth 100000 in
theorem B15_0 (d : Nat) (σ : xS) (v0 : Int32) : run (d + 1) (xentry 15 [.inl v0] σ) = run (d + 1) (15, 4, [none, some (.inl (nI 0)), some (.inl v0)], [], σ) := (xblk_run xq_15 xu_15 [4] d 6 0 [some (.inl v0), none, none] [] σ).trans rfl
set_option maxRecDepth 100000 in
theorem B15_4 (d : Nat) (σ : xS) (v1 : Int32) (v2 : Int32) : run (d + 1) (15, 4, [none, some (.inl v1), some (.inl v2)], [], σ) = if v2 ≤ 0 then some ((v1, 0, none), σ) else run (d + 1) (15, 4, [none, some (.inl (v1 + (v2 &&& (nI 1)))), some (.inl (v2 >>> ((nI 1) &&& 31)))], [], σ) := (xblk_run xq_15 xu_15 [4] d 17 4 [none, some (.inl v1), some (.inl v2)] [] σ).trans rfl
theorem xq_20 : xmeth 20 = (yX12_tries, cX12_tries, 15, 0, 0, (Option.none : Option Jvm.ClassFile.FieldType), xk_20, [(44, [1, 2, 3, 4, 5, 7, 8, 10, 11, 12, 13, 14]), (131, [13, 14]), (169, [14]), (234, [14])]) := rfl
theorem xu_20 : xup xk_20 = true := by decide +kernel
set_option maxRecDepth 100000 in
theorem B20_0 (d : Nat) (σ : xS) (v1 : Int32) (v2 : Int32) (v3 : Int32) (v4 : Int32) (v5 : Int32) (v6 : Int32) (v7 : Int32) (v8 : Int32) : run (d + 1) (xentry 20 [.inr (.inr (17, (some 0))), .inl v1, .inl v2, .inl v3, .inl v4, .inl v5, .inl v6, .inl v7, .inl v8] σ) = if ¬ v3 = v4 then (run d (xentry 10 [.inr (.inr (17, (some 0))), .inl v1] σ)).bind fun q1 => (run d (xentry 11 [.inr (.inr (17, (some 0))), .inl v1] q1.2)).bind fun q2 => if ¬ q1.1.1 = (nI 7) then (run d (xentry 18 [.inr (.inr (17, (some 0))), .inl q1.1.1, .inl q2.1.1, .inl v2, .inl v5] q2.2)).bind fun q3 => run (d + 1) (20, 131, [some (.inr (.inr (17, (some 0)))), some (.inl v1), some (.inl v2), some (.inl v3), some (.inl v4), some (.inl v5), some (.inl v6), some (.inl v7), some (.inl v8), some (.inl q1.1.1), some (.inl q2.1.1), some (.inl q3.1.1), some (.inl (nI 0)), none, none], [], q3.2) else if ¬ v6 = q2.1.1 then (run d (xentry 18 [.inr (.inr (17, (some 0))), .inl q1.1.1, .inl q2.1.1, .inl v2, .inl v5] q2.2)).bind fun q4 => run (d + 1) (20, 131, [some (.inr (.inr (17, (some 0)))), some (.inl v1), some (.inl v2), some (.inl v3), some (.inl v4), some (.inl v5), some (.inl v6), some (.inl v7), some (.inl v8), some (.inl q1.1.1), some (.inl q2.1.1), some (.inl q4.1.1), some (.inl (nI 0)), none, none], [], q4.2) else some ((0, 0, none), q2.2) else if (rI σ 17 0 16) < 0 then run (d + 1) (20, 44, [some (.inr (.inr (17, (some 0)))), none, none, none, none, none, some (.inl v6), none, none, some (.inl (nI 0)), none, none, none, none, none], [], (wI (wI (wI σ 17 0 16 v7) 17 0 17 v6) 17 0 18 v8)) else if v7 < (rI σ 17 0 16) then run (d + 1) (20, 44, [some (.inr (.inr (17, (some 0)))), none, none, none, none, none, some (.inl v6), none, none, some (.inl (nI 0)), none, none, none, none, none], [], (wI (wI (wI σ 17 0 16 v7) 17 0 17 v6) 17 0 18 v8)) else some ((0, 0, none), σ) := (xblk_run xq_20 xu_20 [44, 131, 169, 234] d 68 0 [some (.inr (.inr (17, (some 0)))), some (.inl v1), some (.inl v2), some (.inl v3), some (.inl v4), some (.inl v5), some (.inl v6), some (.inl v7), some (.inl v8), none, none, none, none, none, none] [] σ).trans rfl
set_option maxRecDepth 100000 in
theorem B20_44 (d : Nat) (σ : xS) (v6 : Int32) (v9 : Int32) : run (d + 1) (20, 44, [some (.inr (.inr (17, (some 0)))), none, none, none, none, none, some (.inl v6), none, none, some (.inl v9), none, none, none, none, none], [], σ) = if v6 ≤ v9 then some ((0, 0, none), σ) else if ¬ (v9 < 0 ∨ 6 ≤ v9.toNatClampNeg) then if ¬ (v9 < 0 ∨ 6 ≤ v9.toNatClampNeg) then if ¬ (v9 < 0 ∨ 6 ≤ v9.toNatClampNeg) then if ¬ (v9 < 0 ∨ 6 ≤ v9.toNatClampNeg) then run (d + 1) (20, 44, [some (.inr (.inr (17, (some 0)))), none, none, none, none, none, some (.inl v6), none, none, some (.inl (v9 + (nI 1))), none, none, none, none, none], [], (wI (wI σ 29 0 v9.toNatClampNeg (rI σ 28 0 v9.toNatClampNeg)) 30 0 v9.toNatClampNeg (rI (wI σ 29 0 v9.toNatClampNeg (rI σ 28 0 v9.toNatClampNeg)) 31 0 v9.toNatClampNeg))) else none else none else none else none := (xblk_run xq_20 xu_20 [44, 131, 169, 234] d 24 44 [some (.inr (.inr (17, (some 0)))), none, none, none, none, none, some (.inl v6), none, none, some (.inl v9), none, none, none, none, none] [] σ).trans rfl
set_option maxRecDepth 100000 in
theorem B20_131 (d : Nat) (σ : xS) (v1 : Int32) (v2 : Int32) (v3 : Int32) (v4 : Int32) (v5 : Int32) (v6 : Int32) (v7 : Int32) (v8 : Int32) (v9 : Int32) (v10 : Int32) (v11 : Int32) (v12 : Int32) : run (d + 1) (20, 131, [some (.inr (.inr (17, (some 0)))), some (.inl v1), some (.inl v2), some (.inl v3), some (.inl v4), some (.inl v5), some (.inl v6), some (.inl v7), some (.inl v8), some (.inl v9), some (.inl v10), some (.inl v11), some (.inl v12), none, none], [], σ) = if ¬ ((nI 1) < 0 ∨ 55 ≤ (nI 1).toNatClampNeg) then if (rI σ 18 0 (nI 1).toNatClampNeg) ≤ v12 then some ((0, 0, none), σ) else (run d (xentry 16 [.inr (.inr (17, (some 0))), .inl v12, .inl v3] σ)).bind fun q1 => if ¬ v9 = (nI 5) then run (d + 1) (20, 169, [some (.inr (.inr (17, (some 0)))), some (.inl v1), some (.inl v2), some (.inl v3), some (.inl v4), some (.inl v5), some (.inl v6), some (.inl v7), some (.inl v8), some (.inl v9), some (.inl v10), some (.inl v11), some (.inl v12), some (.inl q1.1.1), none], [.inl (nI 0)], q1.2) else if ¬ v12 = v10 then run (d + 1) (20, 169, [some (.inr (.inr (17, (some 0)))), some (.inl v1), some (.inl v2), some (.inl v3), some (.inl v4), some (.inl v5), some (.inl v6), some (.inl v7), some (.inl v8), some (.inl v9), some (.inl v10), some (.inl v11), some (.inl v12), some (.inl q1.1.1), none], [.inl (nI 0)], q1.2) else run (d + 1) (20, 169, [some (.inr (.inr (17, (some 0)))), some (.inl v1), some (.inl v2), some (.inl v3), some (.inl v4), some (.inl v5), some (.inl v6), some (.inl v7), some (.inl v8), some (.inl v9), some (.inl v10), some (.inl v11), some (.inl v12), some (.inl q1.1.1), none], [.inl (nI 1)], q1.2) else none := (xblk_run xq_20 xu_20 [44, 131, 169, 234] d 24 131 [some (.inr (.inr (17, (some 0)))), some (.inl v1), some (.inl v2), some (.inl v3), some (.inl v4), some (.inl v5), some (.inl v6), some (.inl v7), some (.inl v8), some (.inl v9), some (.inl v10), some (.inl v11), some (.inl v12), none, none] [] σ).trans rfl
set_option maxRecDepth 100000 in
theorem B20_169 (d : Nat) (σ : xS) (v1 : Int32) (v2 : Int32) (v3 : Int32) (v4 : Int32) (v5 : Int32) (v6 : Int32) (v7 : Int32) (v8 : Int32) (v9 : Int32) (v10 : Int32) (v11 : Int32) (v12 : Int32) (v13 : Int32) (s0 : Int32) : run (d + 1) (20, 169, [some (.inr (.inr (17, (some 0)))), some (.inl v1), some (.inl v2), some (.inl v3), some (.inl v4), some (.inl v5), some (.inl v6), some (.inl v7), some (.inl v8), some (.inl v9), some (.inl v10), some (.inl v11), some (.inl v12), some (.inl v13), none], [.inl s0], σ) = if v13 < 0 then run (d + 1) (20, 131, [some (.inr (.inr (17, (some 0)))), some (.inl v1), some (.inl v2), some (.inl v3), some (.inl v4), some (.inl v5), some (.inl v6), some (.inl v7), some (.inl v8), some (.inl v9), some (.inl v10), some (.inl v11), some (.inl (v12 + (nI 1))), none, none], [], σ) else if ((v5 >>> (v13 &&& 31)) &&& (nI 1)) = (nI 1) then run (d + 1) (20, 131, [some (.inr (.inr (17, (some 0)))), some (.inl v1), some (.inl v2), some (.inl v3), some (.inl v4), some (.inl v5), some (.inl v6), some (.inl v7), some (.inl v8), some (.inl v9), some (.inl v10), some (.inl v11), some (.inl (v12 + (nI 1))), none, none], [], σ) else (run d (xentry 8 [.inr (.inr (17, (some 0))), .inl v12, .inl (nI 3)] σ)).bind fun q1 => if (q1.1.1 &&& v11) = 0 then if ¬ (v6 < 0 ∨ 6 ≤ v6.toNatClampNeg) then if s0 = 0 then run (d + 1) (20, 234, [some (.inr (.inr (17, (some 0)))), some (.inl v1), some (.inl v2), some (.inl v3), some (.inl v4), some (.inl v5), some (.inl v6), some (.inl v7), some (.inl v8), some (.inl v9), some (.inl v10), some (.inl v11), some (.inl v12), some (.inl v13), none], [.inl v11, .inl v6, .inr (.inr (31, (some 0)))], (wI q1.2 28 0 v6.toNatClampNeg v12)) else run (d + 1) (20, 234, [some (.inr (.inr (17, (some 0)))), some (.inl v1), some (.inl v2), some (.inl v3), some (.inl v4), some (.inl v5), some (.inl v6), some (.inl v7), some (.inl v8), some (.inl v9), some (.inl v10), some (.inl v11), some (.inl v12), some (.inl v13), none], [.inl (nI 0), .inl v6, .inr (.inr (31, (some 0)))], (wI q1.2 28 0 v6.toNatClampNeg v12)) else none else if ¬ s0 = 0 then if ¬ (v6 < 0 ∨ 6 ≤ v6.toNatClampNeg) then if s0 = 0 then run (d + 1) (20, 234, [some (.inr (.inr (17, (some 0)))), some (.inl v1), some (.inl v2), some (.inl v3), some (.inl v4), some (.inl v5), some (.inl v6), some (.inl v7), some (.inl v8), some (.inl v9), some (.inl v10), some (.inl v11), some (.inl v12), some (.inl v13), none], [.inl v11, .inl v6, .inr (.inr (31, (some 0)))], (wI q1.2 28 0 v6.toNatClampNeg v12)) else run (d + 1) (20, 234, [some (.inr (.inr (17, (some 0)))), some (.inl v1), some (.inl v2), some (.inl v3), some (.inl v4), some (.inl v5), some (.inl v6), some (.inl v7), some (.inl v8), some (.inl v9), some (.inl v10), some (.inl v11), some (.inl v12), some (.inl v13), none], [.inl (nI 0), .inl v6, .inr (.inr (31, (some 0)))], (wI q1.2 28 0 v6.toNatClampNeg v12)) else none else run (d + 1) (20, 131, [some (.inr (.inr (17, (some 0)))), some (.inl v1), some (.inl v2), some (.inl v3), some (.inl v4), some (.inl v5), some (.inl v6), some (.inl v7), some (.inl v8), some (.inl v9), some (.inl v10), some (.inl v11), some (.inl (v12 + (nI 1))), none, none], [], q1.2) := (xblk_run xq_20 xu_20 [44, 131, 169, 234] d 54 169 [some (.inr (.inr (17, (some 0)))), some (.inl v1), some (.inl v2), some (.inl v3), some (.inl v4), some (.inl v5), some (.inl v6), some (.inl v7), some (.inl v8), some (.inl v9), some (.inl v10), some (.inl v11), some (.inl v12), some (.inl v13), none] [.inl s0] σ).trans rfl
set_option maxRecDepth 100000 in
theorem B20_234 (d : Nat) (σ : xS) (v1 : Int32) (v2 : Int32) (v3 : Int32) (v4 : Int32) (v5 : Int32) (v6 : Int32) (v7 : Int32) (v8 : Int32) (v9 : Int32) (v10 : Int32) (v11 : Int32) (v12 : Int32) (v13 : Int32) (s0 : Int32) (s1 : Int32) : run (d + 1) (20, 234, [some (.inr (.inr (17, (some 0)))), some (.inl v1), some (.inl v2), some (.inl v3), some (.inl v4), some (.inl v5), some (.inl v6), some (.inl v7), some (.inl v8), some (.inl v9), some (.inl v10), some (.inl v11), some (.inl v12), some (.inl v13), none], [.inl s0, .inl s1, .inr (.inr (31, (some 0)))], σ) = if ¬ (s1 < 0 ∨ 6 ≤ s1.toNatClampNeg) then (run d (xentry 19 [.inr (.inr (17, (some 0))), .inl v9, .inl v10, .inl v12] (wI σ 31 0 s1.toNatClampNeg s0))).bind fun q1 => (run d (xentry 8 [.inr (.inr (17, (some 0))), .inl v12, .inl (nI 2)] q1.2)).bind fun q2 => (run d (xentry 20 [.inr (.inr (17, (some 0))), .inl v1, .inl v2, .inl v13, .inl v4, .inl (v5 ||| ((nI 1) <<< (v13 &&& 31))), .inl (v6 + (nI 1)), .inl (v7 + q1.1.1), .inl (v8 + q2.1.1)] q2.2)).bind fun q3 => run (d + 1) (20, 131, [some (.inr (.inr (17, (some 0)))), some (.inl v1), some (.inl v2), some (.inl v3), some (.inl v4), some (.inl v5), some (.inl v6), some (.inl v7), some (.inl v8), some (.inl v9), some (.inl v10), some (.inl v11), some (.inl (v12 + (nI 1))), none, none], [], q3.2) else none := (xblk_run xq_20 xu_20 [44, 131, 169, 234] d 32 234 [some (.inr (.inr (17, (some 0)))), some (.inl v1), some (.inl v2), some (.inl v3), some (.inl v4), some (.inl v5), some (.inl v6), some (.inl v7), some (.inl v8), some (.inl v9), some (.inl v10), some (.inl v11), some (.inl v12), some (.inl v13), none] [.inl s0, .inl s1, .inr (.inr (31, (some 0)))] σ).trans rfl
theorem xq_74 : xmeth 74 = (yX12_copy, cX12_copy, 8, 1, 0, (Option.some Jvm.ClassFile.FieldType.int), xk_74, [(122, [7]), (147, [7])]) := rfl
theorem xu_74 : xup xk_74 = true := by decide +kernel
set_option maxRecDepth 100000 in
theorem B74_0 (d : Nat) (σ : xS) (v1 : Int32) (v2 : Int32) (v3 : Int32) (v4 : Int32) (v5 : Int32) : run (d + 1) (xentry 74 [.inr (.inr (17, (some 0))), .inl v1, .inl v2, .inl v3, .inl v4, .inl v5] σ) = (run d (xentry 2 [.inl v1] σ)).bind fun q1 => if q1.1.1 = 0 then some (((-nI 1), 0, none), q1.2) else (run d (xentry 2 [.inl v3] q1.2)).bind fun q2 => if ¬ q2.1.1 = 0 then if ¬ (v1 < 0 ∨ 8 ≤ v1.toNatClampNeg) then if (rI q2.2 22 0 v1.toNatClampNeg) = 0 then some (((-nI 11), 0, none), q2.2) else if ¬ (v3 < 0 ∨ 8 ≤ v3.toNatClampNeg) then if ¬ (rI q2.2 22 0 v3.toNatClampNeg) = 0 then if ¬ (v1 < 0 ∨ 8 ≤ v1.toNatClampNeg) then if ¬ (rI q2.2 22 0 v1.toNatClampNeg) = (nI 2) then some (((-nI 12), 0, none), q2.2) else if ¬ (v3 < 0 ∨ 8 ≤ v3.toNatClampNeg) then if ¬ (rI q2.2 22 0 v3.toNatClampNeg) = (nI 2) then some (((-nI 12), 0, none), q2.2) else if ¬ (v1 < 0 ∨ 8 ≤ v1.toNatClampNeg) then if ¬ (v3 < 0 ∨ 8 ≤ v3.toNatClampNeg) then if (rI q2.2 23 0 v1.toNatClampNeg) = (rI q2.2 23 0 v3.toNatClampNeg) then if v5 < 0 then some (((-nI 13), 0, none), q2.2) else if v2 < 0 then some (((-nI 13), 0, none), q2.2) else if v4 < 0 then some (((-nI 13), 0, none), q2.2) else if ¬ (v1 < 0 ∨ 8 ≤ v1.toNatClampNeg) then if ((rI q2.2 24 0 v1.toNatClampNeg) - v2) < v5 then some (((-nI 13), 0, none), q2.2) else if ¬ (v3 < 0 ∨ 8 ≤ v3.toNatClampNeg) then if v5 ≤ ((rI q2.2 24 0 v3.toNatClampNeg) - v4) then run (d + 1) (74, 122, [some (.inr (.inr (17, (some 0)))), some (.inl v1), some (.inl v2), some (.inl v3), some (.inl v4), some (.inl v5), some (.inl (nI 0)), none], [], q2.2) else some (((-nI 13), 0, none), q2.2) else none else none else some (((-nI 12), 0, none), q2.2) else none else none else none else none else some (((-nI 11), 0, none), q2.2) else none else none else some (((-nI 1), 0, none), q2.2) := (xblk_run xq_74 xu_74 [122, 147] d 87 0 [some (.inr (.inr (17, (some 0)))), some (.inl v1), some (.inl v2), some (.inl v3), some (.inl v4), some (.inl v5), none, none] [] σ).trans rfl
set_option maxRecDepth 100000 in
theorem B74_122 (d : Nat) (σ : xS) (v1 : Int32) (v2 : Int32) (v3 : Int32) (v4 : Int32) (v5 : Int32) (v6 : Int32) : run (d + 1) (74, 122, [some (.inr (.inr (17, (some 0)))), some (.inl v1), some (.inl v2), some (.inl v3), some (.inl v4), some (.inl v5), some (.inl v6), none], [], σ) = if v5 ≤ v6 then some ((v5, 0, none), σ) else if v2 ≤ v4 then run (d + 1) (74, 147, [some (.inr (.inr (17, (some 0)))), some (.inl v1), some (.inl v2), some (.inl v3), some (.inl v4), some (.inl v5), some (.inl v6), none], [.inl ((v5 - (nI 1)) - v6)], σ) else run (d + 1) (74, 147, [some (.inr (.inr (17, (some 0)))), some (.inl v1), some (.inl v2), some (.inl v3), some (.inl v4), some (.inl v5), some (.inl v6), none], [.inl v6], σ) := (xblk_run xq_74 xu_74 [122, 147] d 17 122 [some (.inr (.inr (17, (some 0)))), some (.inl v1), some (.inl v2), some (.inl v3), some (.inl v4), some (.inl v5), some (.inl v6), none] [] σ).trans rfl
set_option maxRecDepth 100000 in
theorem B74_147 (d : Nat) (σ : xS) (v1 : Int32) (v2 : Int32) (v3 : Int32) (v4 : Int32) (v5 : Int32) (v6 : Int32) (s0 : Int32) : run (d + 1) (74, 147, [some (.inr (.inr (17, (some 0)))), some (.inl v1), some (.inl v2), some (.inl v3), some (.inl v4), some (.inl v5), some (.inl v6), none], [.inl s0], σ) = if ¬ (((((nI 100) * v1) + v2) + s0) < 0 ∨ 800 ≤ ((((nI 100) * v1) + v2) + s0).toNatClampNeg) then if ¬ (((((nI 100) * v3) + v4) + s0) < 0 ∨ 800 ≤ ((((nI 100) * v3) + v4) + s0).toNatClampNeg) then run (d + 1) (74, 122, [some (.inr (.inr (17, (some 0)))), some (.inl v1), some (.inl v2), some (.inl v3), some (.inl v4), some (.inl v5), some (.inl (v6 + (nI 1))), none], [], (wI σ 25 0 ((((nI 100) * v3) + v4) + s0).toNatClampNeg (rI σ 25 0 ((((nI 100) * v1) + v2) + s0).toNatClampNeg))) else none else none := (xblk_run xq_74 xu_74 [122, 147] d 25 147 [some (.inr (.inr (17, (some 0)))), some (.inl v1), some (.inl v2), some (.inl v3), some (.inl v4), some (.inl v5), some (.inl v6), none] [.inl s0] σ).trans rfl
theorem xq_95 : xmeth 95 = (yX2_carrierAt, cX2_carrierAt, 2, 3, 16, (Option.some (Jvm.ClassFile.FieldType.object "OncePerRoad$Carrier")), xk_95, []) := rfl
theorem xu_95 : xup xk_95 = true := by decide +kernel
set_option maxRecDepth 100000 in
theorem B95_0 (d : Nat) (σ : xS) (v0 : Nat) (v1 : Int32) : run (d + 1) (xentry 95 [.inr (.inr (1, (some v0))), .inl v1] σ) = if v1 < 0 then some ((0, 0, none), σ) else if (rI σ 1 v0 2) ≤ v1 then some ((0, 0, none), σ) else if (nI 6) ≤ v1 then some ((0, 0, none), σ) else if ¬ (v1 < 0 ∨ 6 ≤ v1.toNatClampNeg) then some ((0, 0, (rP σ 5 v0 v1.toNatClampNeg)), σ) else none := (xblk_run xq_95 xu_95 [] d 23 0 [some (.inr (.inr (1, (some v0)))), some (.inl v1)] [] σ).trans rfl
theorem xq_135 : xmeth 135 = (yX10_extend, cX10_extend, 9, 0, 0, (Option.none : Option Jvm.ClassFile.FieldType), xk_135, [(17, [5, 6, 7, 8]), (103, [7, 8])]) := rfl
theorem xu_135 : xup xk_135 = true := by decide +kernel
set_option maxRecDepth 100000 in
theorem B135_0 (d : Nat) (σ : xS) (v1 : Int32) (v2 : Int32) (v3 : Int32) (v4 : Int32) : run (d + 1) (xentry 135 [.inr (.inr (8, (some 0))), .inl v1, .inl v2, .inl v3, .inl v4] σ) = if (rI σ 8 0 2) ≤ 0 then run (d + 1) (135, 17, [some (.inr (.inr (8, (some 0)))), some (.inl v1), some (.inl v2), some (.inl v3), some (.inl v4), none, none, none, none], [], σ) else if v4 < (rI σ 8 0 3) then run (d + 1) (135, 17, [some (.inr (.inr (8, (some 0)))), some (.inl v1), some (.inl v2), some (.inl v3), some (.inl v4), none, none, none, none], [], σ) else some ((0, 0, none), σ) := (xblk_run xq_135 xu_135 [17, 103] d 10 0 [some (.inr (.inr (8, (some 0)))), some (.inl v1), some (.inl v2), some (.inl v3), some (.inl v4), none, none, none, none] [] σ).trans rfl
set_option maxRecDepth 100000 in
theorem B135_17 (d : Nat) (σ : xS) (v1 : Int32) (v2 : Int32) (v3 : Int32) (v4 : Int32) : run (d + 1) (135, 17, [some (.inr (.inr (8, (some 0)))), some (.inl v1), some (.inl v2), some (.inl v3), some (.inl v4), none, none, none, none], [], σ) = if ¬ v1 = (rI σ 8 0 8) then if (rP σ 8 0 5) = none then some ((0, 0, none), σ) else xob (rP σ 8 0 5) fun i1 => (run d (xentry (xvt 4 ((rC σ).getD i1 0)) [.inr (.inr (16, (some i1)))] σ)).bind fun q2 => if q2.1.1 ≤ v3 then some ((0, 0, none), q2.2) else if v3 < (nI 5) then xob (rP q2.2 8 0 4) fun i3 => xob (rP q2.2 8 0 5) fun i4 => (run d (xentry (xvt 0 ((rC q2.2).getD i4 0)) [.inr (.inr (16, (some i4))), .inl (rI q2.2 8 0 6), .inl v2, .inl (rI q2.2 1 i3 0)] q2.2)).bind fun q5 => run (d + 1) (135, 103, [some (.inr (.inr (8, (some 0)))), some (.inl v1), some (.inl v2), some (.inl v3), some (.inl v4), some (.inl q5.1.1), some (.inl (nI 0)), none, none], [], q5.2) else some ((0, 0, none), q2.2) else if ¬ (nI 0) < 0 ∧ ¬ (nI 0) < 0 ∧ ¬ v3 < 0 ∧ (nI 0).toNatClampNeg + v3.toNatClampNeg ≤ 5 ∧ (nI 0).toNatClampNeg + v3.toNatClampNeg ≤ 5 then some ((0, 0, none), (wI (wI (wR σ 9 0 (va_cpy (σ.1 10 0) (σ.1 9 0) (nI 0).toNatClampNeg (nI 0).toNatClampNeg v3.toNatClampNeg)) 8 0 2 v3) 8 0 3 v4)) else none := (xblk_run xq_135 xu_135 [17, 103] d 49 17 [some (.inr (.inr (8, (some 0)))), some (.inl v1), some (.inl v2), some (.inl v3), some (.inl v4), none, none, none, none] [] σ).trans rfl
set_option maxRecDepth 100000 in
theorem B135_103 (d : Nat) (σ : xS) (v1 : Int32) (v2 : Int32) (v3 : Int32) (v4 : Int32) (v5 : Int32) (v6 : Int32) : run (d + 1) (135, 103, [some (.inr (.inr (8, (some 0)))), some (.inl v1), some (.inl v2), some (.inl v3), some (.inl v4), some (.inl v5), some (.inl v6), none, none], [], σ) = xob (rP σ 8 0 4) fun i1 => if (rI σ 1 i1 1) ≤ v6 then some ((0, 0, none), σ) else xob (rP σ 8 0 4) fun i2 => (run d (xentry 103 [.inr (.inr (1, (some i2))), .inl v6, .inl v1] σ)).bind fun q3 => if q3.1.1 < 0 then run (d + 1) (135, 103, [some (.inr (.inr (8, (some 0)))), some (.inl v1), some (.inl v2), some (.inl v3), some (.inl v4), some (.inl v5), some (.inl (v6 + (nI 1))), none, none], [], q3.2) else (run d (xentry 167 [.inl v2, .inl q3.1.1] q3.2)).bind fun q4 => if ¬ q4.1.1 = 0 then run (d + 1) (135, 103, [some (.inr (.inr (8, (some 0)))), some (.inl v1), some (.inl v2), some (.inl v3), some (.inl v4), some (.inl v5), some (.inl (v6 + (nI 1))), none, none], [], q4.2) else xob (rP q4.2 8 0 4) fun i5 => (run d (xentry 99 [.inr (.inr (1, (some i5))), .inl v6] q4.2)).bind fun q6 => xob (rP q4.2 8 0 5) fun i7 => (run d (xentry (xvt 1 ((rC q6.2).getD i7 0)) [.inr (.inr (16, (some i7))), .inl v6, .inl q6.1.1, .inl v5] q6.2)).bind fun q8 => if ¬ q8.1.1 = 0 then if ¬ (v3 < 0 ∨ 5 ≤ v3.toNatClampNeg) then xob (rP (wI q8.2 10 0 v3.toNatClampNeg v6) 8 0 4) fun i9 => if ¬ (v6 < 0 ∨ 9 ≤ v6.toNatClampNeg) then xob (rP (wI q8.2 10 0 v3.toNatClampNeg v6) 8 0 4) fun i10 => (run d (xentry 99 [.inr (.inr (1, (some i10))), .inl v6] (wI q8.2 10 0 v3.toNatClampNeg v6))).bind fun q11 => xob (rP (wI q8.2 10 0 v3.toNatClampNeg v6) 8 0 5) fun i12 => (run d (xentry (xvt 3 ((rC q11.2).getD i12 0)) [.inr (.inr (16, (some i12))), .inl v6, .inl (rI (wI q8.2 10 0 v3.toNatClampNeg v6) 4 i9 v6.toNatClampNeg), .inl q11.1.1] q11.2)).bind fun q13 => (run d (xentry 135 [.inr (.inr (8, (some 0))), .inl q3.1.1, .inl (v2 ||| ((nI 1) <<< (q3.1.1 &&& 31))), .inl (v3 + (nI 1)), .inl (v4 + q13.1.1)] q13.2)).bind fun q14 => run (d + 1) (135, 103, [some (.inr (.inr (8, (some 0)))), some (.inl v1), some (.inl v2), some (.inl v3), some (.inl v4), some (.inl v5), some (.inl (v6 + (nI 1))), none, none], [], q14.2) else none else none else run (d + 1) (135, 103, [some (.inr (.inr (8, (some 0)))), some (.inl v1), some (.inl v2), some (.inl v3), some (.inl v4), some (.inl v5), some (.inl (v6 + (nI 1))), none, none], [], q8.2) := (xblk_run xq_135 xu_135 [17, 103] d 72 103 [some (.inr (.inr (8, (some 0)))), some (.inl v1), some (.inl v2), some (.inl v3), some (.inl v4), some (.inl v5), some (.inl v6), none, none] [] σ).trans rfl
theorem xq_138 : xmeth 138 = (yX11_land, cX11_land, 7, 1, 0, (Option.some Jvm.ClassFile.FieldType.int), xk_138, [(55, [1, 2, 4])]) := rfl
theorem xu_138 : xup xk_138 = true := by decide +kernel
set_option maxRecDepth 100000 in
theorem B138_0 (d : Nat) (σ : xS) (v1 : Int32) : run (d + 1) (xentry 138 [.inr (.inr (0, (some 0))), .inl v1] σ) = (run d (xentry 171 [.inr (.inr (0, (some 0))), .inl v1, .inl (nI 1)] σ)).bind fun q1 => if q1.1.1 = 0 then if ¬ (v1 < 0 ∨ 8 ≤ v1.toNatClampNeg) then (run d (xentry 180 [.inr (.inr (14, (some v1.toNatClampNeg)))] q1.2)).bind fun q2 => if q2.1.1 < 0 then (run d (xentry 91 [.inr (.inr (1, (some 1))), .inr (.inr (1, (some 0)))] q2.2)).bind fun q3 => run (d + 1) (138, 55, [some (.inr (.inr (0, (some 0)))), none, none, some (.inr (.inr (14, (some v1.toNatClampNeg)))), none, some (.inl (nI 0)), some (.inl (nI 0))], [], q3.2) else some ((((-nI 1000) - q2.1.1), 0, none), q2.2) else none else some ((q1.1.1, 0, none), q1.2) := (xblk_run xq_138 xu_138 [55] d 34 0 [some (.inr (.inr (0, (some 0)))), some (.inl v1), none, none, none, none, none] [] σ).trans rfl
set_option maxRecDepth 100000 in
theorem B138_55 (d : Nat) (σ : xS) (v3 : Nat) (v5 : Int32) (v6 : Int32) : run (d + 1) (138, 55, [some (.inr (.inr (0, (some 0)))), none, none, some (.inr (.inr (14, (some v3)))), none, some (.inl v5), some (.inl v6)], [], σ) = if (rI σ 14 v3 2) ≤ v6 then (run d (xentry 91 [.inr (.inr (1, (some 0))), .inr (.inr (1, (some 1)))] σ)).bind fun q1 => some ((v5, 0, none), q1.2) else (run d (xentry 181 [.inr (.inr (0, (some 0))), .inr (.inr (14, (some v3))), .inl v6] σ)).bind fun q2 => if ¬ q2.1.1 = 0 then (run d (xentry 126 [.inr (.inr (14, (some v3))), .inl v6] q2.2)).bind fun q3 => (run d (xentry 179 [.inl q3.1.1] q3.2)).bind fun q4 => run (d + 1) (138, 55, [some (.inr (.inr (0, (some 0)))), none, none, some (.inr (.inr (14, (some v3)))), none, some (.inl (v5 + (nI 1))), some (.inl (v6 + (q4.1.1 + (nI 2))))], [], q4.2) else some ((((-nI 2000) - v6), 0, none), q2.2) := (xblk_run xq_138 xu_138 [55] d 33 55 [some (.inr (.inr (0, (some 0)))), none, none, some (.inr (.inr (14, (some v3)))), none, some (.inl v5), some (.inl v6)] [] σ).trans rfl
end
