section
/-- a private method of a class that the tables say can be made, by its rows of tables_1 -/
def lw_okq (q : MethodName × Nat) : Prop := (q.1.cls ≠ "java/lang/invoke/MethodHandle" ∧ q.1.cls ≠ "java/lang/invoke/VarHandle") ∧ Cond.instantiable q.1.cls q.2 ∈ tables_1 ∧ Cond.privateMethod q.1 ∈ tables_1 ∧ Cond.instanceMethod q.1 ∈ tables_1
theorem lw_p0 : lw_okq (⟨"EdgeStencil$Reader", "readItem", "(LEdgeStencil$Script;I)I"⟩, 3) := ⟨⟨by decide +kernel, by decide +kernel⟩, List.mem_of_getElem? (i := 45) (by decide +kernel), List.mem_of_getElem? (i := 356) (by decide +kernel), List.mem_of_getElem? (i := 357) (by decide +kernel)⟩
theorem lw_p1 : lw_okq (⟨"EdgeStencil$Reader", "readGrid", "(LEdgeStencil$Script;I)I"⟩, 3) := ⟨⟨by decide +kernel, by decide +kernel⟩, List.mem_of_getElem? (i := 45) (by decide +kernel), List.mem_of_getElem? (i := 364) (by decide +kernel), List.mem_of_getElem? (i := 365) (by decide +kernel)⟩
theorem lw_p2 : lw_okq (⟨"EdgeStencil$Reader", "readRow", "(LEdgeStencil$Script;I)I"⟩, 3) := ⟨⟨by decide +kernel, by decide +kernel⟩, List.mem_of_getElem? (i := 45) (by decide +kernel), List.mem_of_getElem? (i := 374) (by decide +kernel), List.mem_of_getElem? (i := 375) (by decide +kernel)⟩
theorem lw_p3 : lw_okq (⟨"EdgeStencil$Reader", "readDot", "(LEdgeStencil$Script;I)I"⟩, 3) := ⟨⟨by decide +kernel, by decide +kernel⟩, List.mem_of_getElem? (i := 45) (by decide +kernel), List.mem_of_getElem? (i := 378) (by decide +kernel), List.mem_of_getElem? (i := 379) (by decide +kernel)⟩
theorem lw_p4 : lw_okq (⟨"EdgeStencil$Reader", "readMetric", "(LEdgeStencil$Script;I)I"⟩, 3) := ⟨⟨by decide +kernel, by decide +kernel⟩, List.mem_of_getElem? (i := 45) (by decide +kernel), List.mem_of_getElem? (i := 390) (by decide +kernel), List.mem_of_getElem? (i := 391) (by decide +kernel)⟩
theorem lw_p5 : lw_okq (⟨"EdgeStencil", "lookAt", "(III)V"⟩, 15) := ⟨⟨by decide +kernel, by decide +kernel⟩, List.mem_of_getElem? (i := 21) (by decide +kernel), List.mem_of_getElem? (i := 461) (by decide +kernel), List.mem_of_getElem? (i := 462) (by decide +kernel)⟩
theorem lw_p6 : lw_okq (⟨"EdgeStencil", "makeStale", "()V"⟩, 15) := ⟨⟨by decide +kernel, by decide +kernel⟩, List.mem_of_getElem? (i := 21) (by decide +kernel), List.mem_of_getElem? (i := 465) (by decide +kernel), List.mem_of_getElem? (i := 466) (by decide +kernel)⟩
theorem lw_p7 : lw_okq (⟨"EdgeStencil", "startChange", "()V"⟩, 15) := ⟨⟨by decide +kernel, by decide +kernel⟩, List.mem_of_getElem? (i := 21) (by decide +kernel), List.mem_of_getElem? (i := 493) (by decide +kernel), List.mem_of_getElem? (i := 494) (by decide +kernel)⟩
theorem lw_p8 : lw_okq (⟨"EdgeStencil", "isDot", "(I)Z"⟩, 15) := ⟨⟨by decide +kernel, by decide +kernel⟩, List.mem_of_getElem? (i := 21) (by decide +kernel), List.mem_of_getElem? (i := 519) (by decide +kernel), List.mem_of_getElem? (i := 520) (by decide +kernel)⟩
theorem lw_p9 : lw_okq (⟨"EdgeStencil", "freshField", "()LEdgeStencil$Field;"⟩, 15) := ⟨⟨by decide +kernel, by decide +kernel⟩, List.mem_of_getElem? (i := 21) (by decide +kernel), List.mem_of_getElem? (i := 547) (by decide +kernel), List.mem_of_getElem? (i := 548) (by decide +kernel)⟩
theorem lw_p10 : lw_okq (⟨"EdgeStencil$Field", "start", "(LEdgeStencil$Scene;)V"⟩, 3) := ⟨⟨by decide +kernel, by decide +kernel⟩, List.mem_of_getElem? (i := 160) (by decide +kernel), List.mem_of_getElem? (i := 555) (by decide +kernel), List.mem_of_getElem? (i := 556) (by decide +kernel)⟩
theorem lw_p11 : lw_okq (⟨"EdgeStencil$Field", "stepTo", "(IIII)V"⟩, 3) := ⟨⟨by decide +kernel, by decide +kernel⟩, List.mem_of_getElem? (i := 160) (by decide +kernel), List.mem_of_getElem? (i := 568) (by decide +kernel), List.mem_of_getElem? (i := 569) (by decide +kernel)⟩
theorem lw_p12 : lw_okq (⟨"EdgeStencil", "lookedAt", "()LEdgeStencil$Shape;"⟩, 15) := ⟨⟨by decide +kernel, by decide +kernel⟩, List.mem_of_getElem? (i := 21) (by decide +kernel), List.mem_of_getElem? (i := 609) (by decide +kernel), List.mem_of_getElem? (i := 610) (by decide +kernel)⟩
theorem lw_p13 : lw_okq (⟨"EdgeStencil$Shape", "findBox", "()V"⟩, 7) := ⟨⟨by decide +kernel, by decide +kernel⟩, List.mem_of_getElem? (i := 185) (by decide +kernel), List.mem_of_getElem? (i := 620) (by decide +kernel), List.mem_of_getElem? (i := 621) (by decide +kernel)⟩
theorem lw_p14 : lw_okq (⟨"EdgeStencil", "freshRanking", "()LEdgeStencil$Ranking;"⟩, 15) := ⟨⟨by decide +kernel, by decide +kernel⟩, List.mem_of_getElem? (i := 21) (by decide +kernel), List.mem_of_getElem? (i := 671) (by decide +kernel), List.mem_of_getElem? (i := 672) (by decide +kernel)⟩
theorem lw_p15 : lw_okq (⟨"EdgeStencil$Ranking", "enter", "(II)V"⟩, 9) := ⟨⟨by decide +kernel, by decide +kernel⟩, List.mem_of_getElem? (i := 179) (by decide +kernel), List.mem_of_getElem? (i := 694) (by decide +kernel), List.mem_of_getElem? (i := 695) (by decide +kernel)⟩
def lw_privs_1 : List (MethodName × Nat) := [(⟨"EdgeStencil$Reader", "readItem", "(LEdgeStencil$Script;I)I"⟩, 3), (⟨"EdgeStencil$Reader", "readGrid", "(LEdgeStencil$Script;I)I"⟩, 3), (⟨"EdgeStencil$Reader", "readRow", "(LEdgeStencil$Script;I)I"⟩, 3), (⟨"EdgeStencil$Reader", "readDot", "(LEdgeStencil$Script;I)I"⟩, 3), (⟨"EdgeStencil$Reader", "readMetric", "(LEdgeStencil$Script;I)I"⟩, 3), (⟨"EdgeStencil", "lookAt", "(III)V"⟩, 15), (⟨"EdgeStencil", "makeStale", "()V"⟩, 15), (⟨"EdgeStencil", "startChange", "()V"⟩, 15), (⟨"EdgeStencil", "isDot", "(I)Z"⟩, 15), (⟨"EdgeStencil", "freshField", "()LEdgeStencil$Field;"⟩, 15), (⟨"EdgeStencil$Field", "start", "(LEdgeStencil$Scene;)V"⟩, 3), (⟨"EdgeStencil$Field", "stepTo", "(IIII)V"⟩, 3), (⟨"EdgeStencil", "lookedAt", "()LEdgeStencil$Shape;"⟩, 15), (⟨"EdgeStencil$Shape", "findBox", "()V"⟩, 7), (⟨"EdgeStencil", "freshRanking", "()LEdgeStencil$Ranking;"⟩, 15), (⟨"EdgeStencil$Ranking", "enter", "(II)V"⟩, 9)]
theorem lw_r1 : ∀ q ∈ lw_privs_1, lw_okq q := List.forall_mem_cons.mpr ⟨lw_p0, List.forall_mem_cons.mpr ⟨lw_p1, List.forall_mem_cons.mpr ⟨lw_p2, List.forall_mem_cons.mpr ⟨lw_p3, List.forall_mem_cons.mpr ⟨lw_p4, List.forall_mem_cons.mpr ⟨lw_p5, List.forall_mem_cons.mpr ⟨lw_p6, List.forall_mem_cons.mpr ⟨lw_p7, List.forall_mem_cons.mpr ⟨lw_p8, List.forall_mem_cons.mpr ⟨lw_p9, List.forall_mem_cons.mpr ⟨lw_p10, List.forall_mem_cons.mpr ⟨lw_p11, List.forall_mem_cons.mpr ⟨lw_p12, List.forall_mem_cons.mpr ⟨lw_p13, List.forall_mem_cons.mpr ⟨lw_p14, List.forall_mem_cons.mpr ⟨lw_p15, fun _ h => absurd h List.not_mem_nil⟩⟩⟩⟩⟩⟩⟩⟩⟩⟩⟩⟩⟩⟩⟩⟩
theorem lw_p16 : lw_okq (⟨"EdgeStencil$Ranking", "firstOpen", "()I"⟩, 9) := ⟨⟨by decide +kernel, by decide +kernel⟩, List.mem_of_getElem? (i := 179) (by decide +kernel), List.mem_of_getElem? (i := 716) (by decide +kernel), List.mem_of_getElem? (i := 717) (by decide +kernel)⟩
theorem lw_p17 : lw_okq (⟨"EdgeStencil$Ranking", "closeAround", "(III)V"⟩, 9) := ⟨⟨by decide +kernel, by decide +kernel⟩, List.mem_of_getElem? (i := 179) (by decide +kernel), List.mem_of_getElem? (i := 721) (by decide +kernel), List.mem_of_getElem? (i := 722) (by decide +kernel)⟩
theorem lw_p18 : lw_okq (⟨"EdgeStencil", "takeFirst", "(II)I"⟩, 15) := ⟨⟨by decide +kernel, by decide +kernel⟩, List.mem_of_getElem? (i := 21) (by decide +kernel), List.mem_of_getElem? (i := 730) (by decide +kernel), List.mem_of_getElem? (i := 731) (by decide +kernel)⟩
theorem lw_p19 : lw_okq (⟨"EdgeStencilModel", "reads", "()I"⟩, 27) := ⟨⟨by decide +kernel, by decide +kernel⟩, List.mem_of_getElem? (i := 754) (by decide +kernel), List.mem_of_getElem? (i := 863) (by decide +kernel), List.mem_of_getElem? (i := 864) (by decide +kernel)⟩
theorem lw_p20 : lw_okq (⟨"EdgeStencilModel", "readsItem", "(I)I"⟩, 27) := ⟨⟨by decide +kernel, by decide +kernel⟩, List.mem_of_getElem? (i := 754) (by decide +kernel), List.mem_of_getElem? (i := 867) (by decide +kernel), List.mem_of_getElem? (i := 868) (by decide +kernel)⟩
theorem lw_p21 : lw_okq (⟨"EdgeStencilModel", "letter", "(I)I"⟩, 27) := ⟨⟨by decide +kernel, by decide +kernel⟩, List.mem_of_getElem? (i := 754) (by decide +kernel), List.mem_of_getElem? (i := 871) (by decide +kernel), List.mem_of_getElem? (i := 872) (by decide +kernel)⟩
theorem lw_p22 : lw_okq (⟨"EdgeStencilModel", "readsGrid", "(I)Z"⟩, 27) := ⟨⟨by decide +kernel, by decide +kernel⟩, List.mem_of_getElem? (i := 754) (by decide +kernel), List.mem_of_getElem? (i := 875) (by decide +kernel), List.mem_of_getElem? (i := 876) (by decide +kernel)⟩
theorem lw_p23 : lw_okq (⟨"EdgeStencilModel", "readsRow", "(I)Z"⟩, 27) := ⟨⟨by decide +kernel, by decide +kernel⟩, List.mem_of_getElem? (i := 754) (by decide +kernel), List.mem_of_getElem? (i := 882) (by decide +kernel), List.mem_of_getElem? (i := 883) (by decide +kernel)⟩
theorem lw_p24 : lw_okq (⟨"EdgeStencilModel", "readsDot", "(I)Z"⟩, 27) := ⟨⟨by decide +kernel, by decide +kernel⟩, List.mem_of_getElem? (i := 754) (by decide +kernel), List.mem_of_getElem? (i := 886) (by decide +kernel), List.mem_of_getElem? (i := 887) (by decide +kernel)⟩
theorem lw_p25 : lw_okq (⟨"EdgeStencilModel", "readsMeasure", "(I)Z"⟩, 27) := ⟨⟨by decide +kernel, by decide +kernel⟩, List.mem_of_getElem? (i := 754) (by decide +kernel), List.mem_of_getElem? (i := 893) (by decide +kernel), List.mem_of_getElem? (i := 894) (by decide +kernel)⟩
theorem lw_p26 : lw_okq (⟨"EdgeStencilModel", "edges", "()I"⟩, 27) := ⟨⟨by decide +kernel, by decide +kernel⟩, List.mem_of_getElem? (i := 754) (by decide +kernel), List.mem_of_getElem? (i := 901) (by decide +kernel), List.mem_of_getElem? (i := 902) (by decide +kernel)⟩
theorem lw_p27 : lw_okq (⟨"EdgeStencilModel", "isCell", "(II)Z"⟩, 27) := ⟨⟨by decide +kernel, by decide +kernel⟩, List.mem_of_getElem? (i := 754) (by decide +kernel), List.mem_of_getElem? (i := 913) (by decide +kernel), List.mem_of_getElem? (i := 914) (by decide +kernel)⟩
theorem lw_p28 : lw_okq (⟨"EdgeStencilModel", "remembers", "()V"⟩, 27) := ⟨⟨by decide +kernel, by decide +kernel⟩, List.mem_of_getElem? (i := 754) (by decide +kernel), List.mem_of_getElem? (i := 917) (by decide +kernel), List.mem_of_getElem? (i := 918) (by decide +kernel)⟩
theorem lw_p29 : lw_okq (⟨"EdgeStencilModel", "isDot", "(I)Z"⟩, 27) := ⟨⟨by decide +kernel, by decide +kernel⟩, List.mem_of_getElem? (i := 754) (by decide +kernel), List.mem_of_getElem? (i := 929) (by decide +kernel), List.mem_of_getElem? (i := 930) (by decide +kernel)⟩
theorem lw_p30 : lw_okq (⟨"EdgeStencilModel", "farOf", "(II)I"⟩, 27) := ⟨⟨by decide +kernel, by decide +kernel⟩, List.mem_of_getElem? (i := 754) (by decide +kernel), List.mem_of_getElem? (i := 945) (by decide +kernel), List.mem_of_getElem? (i := 946) (by decide +kernel)⟩
theorem lw_p31 : lw_okq (⟨"EdgeStencilModel", "nearestOf", "(II)I"⟩, 27) := ⟨⟨by decide +kernel, by decide +kernel⟩, List.mem_of_getElem? (i := 754) (by decide +kernel), List.mem_of_getElem? (i := 949) (by decide +kernel), List.mem_of_getElem? (i := 950) (by decide +kernel)⟩
def lw_privs_2 : List (MethodName × Nat) := [(⟨"EdgeStencil$Ranking", "firstOpen", "()I"⟩, 9), (⟨"EdgeStencil$Ranking", "closeAround", "(III)V"⟩, 9), (⟨"EdgeStencil", "takeFirst", "(II)I"⟩, 15), (⟨"EdgeStencilModel", "reads", "()I"⟩, 27), (⟨"EdgeStencilModel", "readsItem", "(I)I"⟩, 27), (⟨"EdgeStencilModel", "letter", "(I)I"⟩, 27), (⟨"EdgeStencilModel", "readsGrid", "(I)Z"⟩, 27), (⟨"EdgeStencilModel", "readsRow", "(I)Z"⟩, 27), (⟨"EdgeStencilModel", "readsDot", "(I)Z"⟩, 27), (⟨"EdgeStencilModel", "readsMeasure", "(I)Z"⟩, 27), (⟨"EdgeStencilModel", "edges", "()I"⟩, 27), (⟨"EdgeStencilModel", "isCell", "(II)Z"⟩, 27), (⟨"EdgeStencilModel", "remembers", "()V"⟩, 27), (⟨"EdgeStencilModel", "isDot", "(I)Z"⟩, 27), (⟨"EdgeStencilModel", "farOf", "(II)I"⟩, 27), (⟨"EdgeStencilModel", "nearestOf", "(II)I"⟩, 27)]
theorem lw_r2 : ∀ q ∈ lw_privs_2, lw_okq q := List.forall_mem_cons.mpr ⟨lw_p16, List.forall_mem_cons.mpr ⟨lw_p17, List.forall_mem_cons.mpr ⟨lw_p18, List.forall_mem_cons.mpr ⟨lw_p19, List.forall_mem_cons.mpr ⟨lw_p20, List.forall_mem_cons.mpr ⟨lw_p21, List.forall_mem_cons.mpr ⟨lw_p22, List.forall_mem_cons.mpr ⟨lw_p23, List.forall_mem_cons.mpr ⟨lw_p24, List.forall_mem_cons.mpr ⟨lw_p25, List.forall_mem_cons.mpr ⟨lw_p26, List.forall_mem_cons.mpr ⟨lw_p27, List.forall_mem_cons.mpr ⟨lw_p28, List.forall_mem_cons.mpr ⟨lw_p29, List.forall_mem_cons.mpr ⟨lw_p30, List.forall_mem_cons.mpr ⟨lw_p31, fun _ h => absurd h List.not_mem_nil⟩⟩⟩⟩⟩⟩⟩⟩⟩⟩⟩⟩⟩⟩⟩⟩
theorem lw_p32 : lw_okq (⟨"EdgeStencilModel", "apart", "(IIII)I"⟩, 27) := ⟨⟨by decide +kernel, by decide +kernel⟩, List.mem_of_getElem? (i := 754) (by decide +kernel), List.mem_of_getElem? (i := 953) (by decide +kernel), List.mem_of_getElem? (i := 954) (by decide +kernel)⟩
theorem lw_p33 : lw_okq (⟨"EdgeStencilModel", "liesX", "(IIII)I"⟩, 27) := ⟨⟨by decide +kernel, by decide +kernel⟩, List.mem_of_getElem? (i := 754) (by decide +kernel), List.mem_of_getElem? (i := 973) (by decide +kernel), List.mem_of_getElem? (i := 974) (by decide +kernel)⟩
theorem lw_p34 : lw_okq (⟨"EdgeStencilModel", "liesY", "(IIII)I"⟩, 27) := ⟨⟨by decide +kernel, by decide +kernel⟩, List.mem_of_getElem? (i := 754) (by decide +kernel), List.mem_of_getElem? (i := 980) (by decide +kernel), List.mem_of_getElem? (i := 981) (by decide +kernel)⟩
theorem lw_p35 : lw_okq (⟨"EdgeStencilModel", "laysFars", "()V"⟩, 27) := ⟨⟨by decide +kernel, by decide +kernel⟩, List.mem_of_getElem? (i := 754) (by decide +kernel), List.mem_of_getElem? (i := 988) (by decide +kernel), List.mem_of_getElem? (i := 989) (by decide +kernel)⟩
theorem lw_p36 : lw_okq (⟨"EdgeStencilModel", "looks", "(IIIII)Z"⟩, 27) := ⟨⟨by decide +kernel, by decide +kernel⟩, List.mem_of_getElem? (i := 754) (by decide +kernel), List.mem_of_getElem? (i := 992) (by decide +kernel), List.mem_of_getElem? (i := 993) (by decide +kernel)⟩
theorem lw_p37 : lw_okq (⟨"EdgeStencilModel", "toldMany", "(IIIIII)I"⟩, 27) := ⟨⟨by decide +kernel, by decide +kernel⟩, List.mem_of_getElem? (i := 754) (by decide +kernel), List.mem_of_getElem? (i := 1009) (by decide +kernel), List.mem_of_getElem? (i := 1010) (by decide +kernel)⟩
theorem lw_p38 : lw_okq (⟨"EdgeStencilModel", "isTold", "(IIIIIII)Z"⟩, 27) := ⟨⟨by decide +kernel, by decide +kernel⟩, List.mem_of_getElem? (i := 754) (by decide +kernel), List.mem_of_getElem? (i := 1013) (by decide +kernel), List.mem_of_getElem? (i := 1014) (by decide +kernel)⟩
theorem lw_p39 : lw_okq (⟨"EdgeStencilModel", "chosenIs", "(III)I"⟩, 27) := ⟨⟨by decide +kernel, by decide +kernel⟩, List.mem_of_getElem? (i := 754) (by decide +kernel), List.mem_of_getElem? (i := 1021) (by decide +kernel), List.mem_of_getElem? (i := 1022) (by decide +kernel)⟩
theorem lw_p40 : lw_okq (⟨"EdgeStencilModel", "chooses", "(I)V"⟩, 27) := ⟨⟨by decide +kernel, by decide +kernel⟩, List.mem_of_getElem? (i := 754) (by decide +kernel), List.mem_of_getElem? (i := 1025) (by decide +kernel), List.mem_of_getElem? (i := 1026) (by decide +kernel)⟩
theorem lw_p41 : lw_okq (⟨"EdgeStencilModel", "laysRanks", "()V"⟩, 27) := ⟨⟨by decide +kernel, by decide +kernel⟩, List.mem_of_getElem? (i := 754) (by decide +kernel), List.mem_of_getElem? (i := 1029) (by decide +kernel), List.mem_of_getElem? (i := 1030) (by decide +kernel)⟩
theorem lw_p42 : lw_okq (⟨"EdgeStencilModel", "isApart", "(II)Z"⟩, 27) := ⟨⟨by decide +kernel, by decide +kernel⟩, List.mem_of_getElem? (i := 754) (by decide +kernel), List.mem_of_getElem? (i := 1033) (by decide +kernel), List.mem_of_getElem? (i := 1034) (by decide +kernel)⟩
theorem lw_p43 : lw_okq (⟨"EdgeStencilModel", "takeOne", "(II)I"⟩, 27) := ⟨⟨by decide +kernel, by decide +kernel⟩, List.mem_of_getElem? (i := 754) (by decide +kernel), List.mem_of_getElem? (i := 1054) (by decide +kernel), List.mem_of_getElem? (i := 1055) (by decide +kernel)⟩
def lw_privs_3 : List (MethodName × Nat) := [(⟨"EdgeStencilModel", "apart", "(IIII)I"⟩, 27), (⟨"EdgeStencilModel", "liesX", "(IIII)I"⟩, 27), (⟨"EdgeStencilModel", "liesY", "(IIII)I"⟩, 27), (⟨"EdgeStencilModel", "laysFars", "()V"⟩, 27), (⟨"EdgeStencilModel", "looks", "(IIIII)Z"⟩, 27), (⟨"EdgeStencilModel", "toldMany", "(IIIIII)I"⟩, 27), (⟨"EdgeStencilModel", "isTold", "(IIIIIII)Z"⟩, 27), (⟨"EdgeStencilModel", "chosenIs", "(III)I"⟩, 27), (⟨"EdgeStencilModel", "chooses", "(I)V"⟩, 27), (⟨"EdgeStencilModel", "laysRanks", "()V"⟩, 27), (⟨"EdgeStencilModel", "isApart", "(II)Z"⟩, 27), (⟨"EdgeStencilModel", "takeOne", "(II)I"⟩, 27)]
theorem lw_r3 : ∀ q ∈ lw_privs_3, lw_okq q := List.forall_mem_cons.mpr ⟨lw_p32, List.forall_mem_cons.mpr ⟨lw_p33, List.forall_mem_cons.mpr ⟨lw_p34, List.forall_mem_cons.mpr ⟨lw_p35, List.forall_mem_cons.mpr ⟨lw_p36, List.forall_mem_cons.mpr ⟨lw_p37, List.forall_mem_cons.mpr ⟨lw_p38, List.forall_mem_cons.mpr ⟨lw_p39, List.forall_mem_cons.mpr ⟨lw_p40, List.forall_mem_cons.mpr ⟨lw_p41, List.forall_mem_cons.mpr ⟨lw_p42, List.forall_mem_cons.mpr ⟨lw_p43, fun _ h => absurd h List.not_mem_nil⟩⟩⟩⟩⟩⟩⟩⟩⟩⟩⟩⟩
def lw_privs : List (MethodName × Nat) := lw_privs_1 ++ (lw_privs_2 ++ (lw_privs_3))
def lw_tbl : List Cond := k2_sels lw_privs ++ tables_1
theorem lw_privs_ok : ∀ q ∈ lw_privs, lw_okq q := by
  show ∀ q ∈ lw_privs_1 ++ (lw_privs_2 ++ (lw_privs_3)), lw_okq q
  exact List.forall_mem_append.mpr ⟨lw_r1, List.forall_mem_append.mpr ⟨lw_r2, lw_r3⟩⟩
end
section
/-! ===== BEGIN words of one list among another's, by their places ===== -/
theorem goodIn_r {big : List Cond} (ws : List Cond) (ps : List Nat) (hp : ws = ps.filterMap (fun i => big[i]?)) (h : ws.all goodWord = true) : GoodIn big ws := by
  intro w hw
  have h1 := List.all_eq_true.mp h w hw
  rw [hp] at hw
  obtain ⟨i, -, hi⟩ := List.mem_filterMap.mp hw
  have hm : w ∈ big := by first | exact List.mem_of_getElem? hi | exact List.getElem?_mem hi
  exact ⟨hm, good_of_word h1⟩
theorem goodIn_app {big a b : List Cond} (ha : GoodIn big a) (hb : GoodIn big b) : GoodIn big (a ++ b) := fun w h => (List.mem_append.mp h).elim (ha w) (hb w)
theorem goodIn_ca {big a b : List Cond} {c : Cond} (ha : GoodIn big (c :: a)) (hb : GoodIn big b) : GoodIn big (c :: (a ++ b)) := fun w h => (List.mem_cons.mp h).elim (fun e => ha w (List.mem_cons.mpr (Or.inl e))) (fun h => (List.mem_append.mp h).elim (fun h => ha w (List.mem_cons.mpr (Or.inr h))) (hb w))
theorem goodIn_sub {big ws : List Cond} (hm : ∀ w ∈ ws, w ∈ big) (h : ws.all goodWord = true) : GoodIn big ws := fun w hw => ⟨hm w hw, good_of_word (List.all_eq_true.mp h w hw)⟩
/-! ===== END ===== -/

/-! ===== BEGIN printed: names, fields, word lists, decode rows ===== -/
def RX0 : String := "EdgeStencil$Book"
def TX0 : u_T := fun k => match k with
  | 0 => ("EdgeStencil$Book", "ranks", "[I", true)
  | 1 => ("EdgeStencil$Book", "gone", "[I", true)
  | _ => ("EdgeStencil$Book", "size", "I", false)
def tyX0 : Nat → FieldType := fun k => match k with
  | 0 => .array .int
  | 1 => .array .int
  | _ => .int
abbrev wsX00 : List Cond := u_ws RX0 TX0 3
theorem nmX0 : ∀ a, a < 3 → ∀ b, b < 3 → a ≠ b → (TX0 a).2.1 ≠ (TX0 b).2.1 := by decide +kernel
theorem tyX0_ok : ∀ k, k < 3 → parseFieldDescriptor (TX0 k).2.2.1 = some (tyX0 k) := by decide +kernel
abbrev cX0_init : ByteArray := prog_2_method_1_code
def yX0_init : MethodName := ⟨RX0, "<init>", "()V"⟩
abbrev cX0_add : ByteArray := prog_2_method_2_code
def yX0_add : MethodName := ⟨RX0, "add", "(II)V"⟩
def RX1 : String := "EdgeStencil$Field"
def TX1 : u_T := fun k => match k with
  | 0 => ("EdgeStencil$Field", "fars", "[I", true)
  | 1 => ("EdgeStencil$Field", "width", "I", false)
  | _ => ("EdgeStencil$Field", "height", "I", false)
def tyX1 : Nat → FieldType := fun k => match k with
  | 0 => .array .int
  | 1 => .int
  | _ => .int
abbrev wsX10 : List Cond := u_ws RX1 TX1 3
theorem nmX1 : ∀ a, a < 3 → ∀ b, b < 3 → a ≠ b → (TX1 a).2.1 ≠ (TX1 b).2.1 := by decide +kernel
theorem tyX1_ok : ∀ k, k < 3 → parseFieldDescriptor (TX1 k).2.2.1 = some (tyX1 k) := by decide +kernel
abbrev cX1_init : ByteArray := prog_3_method_1_code
def yX1_init : MethodName := ⟨RX1, "<init>", "()V"⟩
abbrev cX1_workOut : ByteArray := prog_3_method_2_code
def yX1_workOut : MethodName := ⟨RX1, "workOut", "(LEdgeStencil$Scene;)V"⟩
abbrev cX1_start : ByteArray := prog_3_method_3_code
def yX1_start : MethodName := ⟨RX1, "start", "(LEdgeStencil$Scene;)V"⟩
abbrev cX1_stepTo : ByteArray := prog_3_method_4_code
def yX1_stepTo : MethodName := ⟨RX1, "stepTo", "(IIII)V"⟩
abbrev cX1_indexOf : ByteArray := prog_3_method_5_code
def yX1_indexOf : MethodName := ⟨RX1, "indexOf", "(II)I"⟩
abbrev cX1_at : ByteArray := prog_3_method_6_code
def yX1_at : MethodName := ⟨RX1, "at", "(II)I"⟩
abbrev cX1_cellsSoFar : ByteArray := prog_3_method_7_code
def yX1_cellsSoFar : MethodName := ⟨RX1, "cellsSoFar", "(I)I"⟩
abbrev cX1_leastIn : ByteArray := prog_3_method_8_code
def yX1_leastIn : MethodName := ⟨RX1, "leastIn", "(IIII)I"⟩
def RX2 : String := "EdgeStencil$Fit"
def TX2 : u_T := fun k => match k with
  | 0 => ("EdgeStencil$Fit", "ill", "I", false)
  | 1 => ("EdgeStencil$Fit", "worst", "I", false)
  | 2 => ("EdgeStencil$Fit", "worstDot", "I", false)
  | _ => ("EdgeStencil$Fit", "onEdges", "I", false)
def tyX2 : Nat → FieldType := fun k => match k with
  | 0 => .int
  | 1 => .int
  | 2 => .int
  | _ => .int
abbrev wsX20 : List Cond := u_ws RX2 TX2 4
theorem nmX2 : ∀ a, a < 4 → ∀ b, b < 4 → a ≠ b → (TX2 a).2.1 ≠ (TX2 b).2.1 := by decide +kernel
theorem tyX2_ok : ∀ k, k < 4 → parseFieldDescriptor (TX2 k).2.2.1 = some (tyX2 k) := by decide +kernel
abbrev cX2_init : ByteArray := prog_4_method_1_code
def yX2_init : MethodName := ⟨RX2, "<init>", "()V"⟩
abbrev cX2_weigh : ByteArray := prog_4_method_2_code
def yX2_weigh : MethodName := ⟨RX2, "weigh", "(LEdgeStencil$Field;LEdgeStencil$Shape;II)Z"⟩
def RX3 : String := "EdgeStencil$History"
def TX3 : u_T := fun k => match k with
  | 0 => ("EdgeStencil$History", "scenes", "[LEdgeStencil$Scene;", true)
  | 1 => ("EdgeStencil$History", "bookSizes", "[I", true)
  | 2 => ("EdgeStencil$History", "next", "I", false)
  | _ => ("EdgeStencil$History", "size", "I", false)
def tyX3 : Nat → FieldType := fun k => match k with
  | 0 => .array (.object "EdgeStencil$Scene")
  | 1 => .array .int
  | 2 => .int
  | _ => .int
abbrev wsX30 : List Cond := u_ws RX3 TX3 4
theorem nmX3 : ∀ a, a < 4 → ∀ b, b < 4 → a ≠ b → (TX3 a).2.1 ≠ (TX3 b).2.1 := by decide +kernel
theorem tyX3_ok : ∀ k, k < 4 → parseFieldDescriptor (TX3 k).2.2.1 = some (tyX3 k) := by decide +kernel
abbrev cX3_init : ByteArray := prog_5_method_1_code
def yX3_init : MethodName := ⟨RX3, "<init>", "()V"⟩
abbrev cX3_keep : ByteArray := prog_5_method_2_code
def yX3_keep : MethodName := ⟨RX3, "keep", "(LEdgeStencil$Scene;I)V"⟩
abbrev cX3_restoreLatest : ByteArray := prog_5_method_3_code
def yX3_restoreLatest : MethodName := ⟨RX3, "restoreLatest", "(LEdgeStencil$Scene;LEdgeStencil$Book;)V"⟩
def RX4 : String := "EdgeStencil$Rank"
def TX4 : u_T := fun k => match k with
  | _ => ("", "", "", false)
def tyX4 : Nat → FieldType := fun k => match k with
  | _ => .int
abbrev wsX40 : List Cond := u_ws RX4 TX4 0
theorem nmX4 : ∀ a, a < 0 → ∀ b, b < 0 → a ≠ b → (TX4 a).2.1 ≠ (TX4 b).2.1 := by decide +kernel
theorem tyX4_ok : ∀ k, k < 0 → parseFieldDescriptor (TX4 k).2.2.1 = some (tyX4 k) := by decide +kernel
abbrev cX4_of : ByteArray := prog_6_method_2_code
def yX4_of : MethodName := ⟨RX4, "of", "(LEdgeStencil$Fit;II)I"⟩
abbrev cX4_scaleOf : ByteArray := prog_6_method_3_code
def yX4_scaleOf : MethodName := ⟨RX4, "scaleOf", "(I)I"⟩
abbrev cX4_turnsOf : ByteArray := prog_6_method_4_code
def yX4_turnsOf : MethodName := ⟨RX4, "turnsOf", "(I)I"⟩
abbrev cX4_flipOf : ByteArray := prog_6_method_5_code
def yX4_flipOf : MethodName := ⟨RX4, "flipOf", "(I)I"⟩
abbrev cX4_part : ByteArray := prog_6_method_6_code
def yX4_part : MethodName := ⟨RX4, "part", "(II)I"⟩
def RX5 : String := "EdgeStencil$Ranking"
def TX5 : u_T := fun k => match k with
  | 0 => ("EdgeStencil$Ranking", "shape", "LEdgeStencil$Shape;", true)
  | 1 => ("EdgeStencil$Ranking", "fit", "LEdgeStencil$Fit;", true)
  | 2 => ("EdgeStencil$Ranking", "first", "[I", true)
  | 3 => ("EdgeStencil$Ranking", "found", "I", false)
  | 4 => ("EdgeStencil$Ranking", "firstAtPlace", "[I", true)
  | 5 => ("EdgeStencil$Ranking", "open", "[Z", true)
  | 6 => ("EdgeStencil$Ranking", "chosen", "[I", true)
  | 7 => ("EdgeStencil$Ranking", "chosenCount", "I", false)
  | _ => ("EdgeStencil$Ranking", "chosenBy", "I", false)
def tyX5 : Nat → FieldType := fun k => match k with
  | 0 => .object "EdgeStencil$Shape"
  | 1 => .object "EdgeStencil$Fit"
  | 2 => .array .int
  | 3 => .int
  | 4 => .array .int
  | 5 => .array .boolean
  | 6 => .array .int
  | 7 => .int
  | _ => .int
abbrev wsX50 : List Cond := u_ws RX5 TX5 9
theorem nmX5 : ∀ a, a < 9 → ∀ b, b < 9 → a ≠ b → (TX5 a).2.1 ≠ (TX5 b).2.1 := by decide +kernel
theorem tyX5_ok : ∀ k, k < 9 → parseFieldDescriptor (TX5 k).2.2.1 = some (tyX5 k) := by decide +kernel
abbrev cX5_init : ByteArray := prog_7_method_1_code
def yX5_init : MethodName := ⟨RX5, "<init>", "()V"⟩
abbrev cX5_seek : ByteArray := prog_7_method_2_code
def yX5_seek : MethodName := ⟨RX5, "seek", "(LEdgeStencil$Scene;LEdgeStencil$Field;)V"⟩
abbrev cX5_enter : ByteArray := prog_7_method_3_code
def yX5_enter : MethodName := ⟨RX5, "enter", "(II)V"⟩
abbrev cX5_chooseApart : ByteArray := prog_7_method_4_code
def yX5_chooseApart : MethodName := ⟨RX5, "chooseApart", "(I)V"⟩
abbrev cX5_firstOpen : ByteArray := prog_7_method_5_code
def yX5_firstOpen : MethodName := ⟨RX5, "firstOpen", "()I"⟩
abbrev cX5_closeAround : ByteArray := prog_7_method_6_code
def yX5_closeAround : MethodName := ⟨RX5, "closeAround", "(III)V"⟩
def RX6 : String := "EdgeStencil$Reader"
def TX6 : u_T := fun k => match k with
  | 0 => ("EdgeStencil$Reader", "scene", "LEdgeStencil$Scene;", true)
  | 1 => ("EdgeStencil$Reader", "gridTold", "Z", false)
  | _ => ("EdgeStencil$Reader", "rowsTold", "I", false)
def tyX6 : Nat → FieldType := fun k => match k with
  | 0 => .object "EdgeStencil$Scene"
  | 1 => .boolean
  | _ => .int
abbrev wsX60 : List Cond := u_ws RX6 TX6 3
theorem nmX6 : ∀ a, a < 3 → ∀ b, b < 3 → a ≠ b → (TX6 a).2.1 ≠ (TX6 b).2.1 := by decide +kernel
theorem tyX6_ok : ∀ k, k < 3 → parseFieldDescriptor (TX6 k).2.2.1 = some (tyX6 k) := by decide +kernel
abbrev cX6_init : ByteArray := prog_8_method_1_code
def yX6_init : MethodName := ⟨RX6, "<init>", "()V"⟩
abbrev cX6_readAll : ByteArray := prog_8_method_2_code
def yX6_readAll : MethodName := ⟨RX6, "readAll", "(LEdgeStencil$Script;)I"⟩
abbrev cX6_readItem : ByteArray := prog_8_method_3_code
def yX6_readItem : MethodName := ⟨RX6, "readItem", "(LEdgeStencil$Script;I)I"⟩
abbrev cX6_readGrid : ByteArray := prog_8_method_4_code
def yX6_readGrid : MethodName := ⟨RX6, "readGrid", "(LEdgeStencil$Script;I)I"⟩
abbrev cX6_readRow : ByteArray := prog_8_method_5_code
def yX6_readRow : MethodName := ⟨RX6, "readRow", "(LEdgeStencil$Script;I)I"⟩
abbrev cX6_readDot : ByteArray := prog_8_method_6_code
def yX6_readDot : MethodName := ⟨RX6, "readDot", "(LEdgeStencil$Script;I)I"⟩
abbrev cX6_readMetric : ByteArray := prog_8_method_7_code
def yX6_readMetric : MethodName := ⟨RX6, "readMetric", "(LEdgeStencil$Script;I)I"⟩
abbrev cX6_sideOf : ByteArray := prog_8_method_8_code
def yX6_sideOf : MethodName := ⟨RX6, "sideOf", "(C)I"⟩
def RX7 : String := "EdgeStencil$Scene"
def TX7 : u_T := fun k => match k with
  | 0 => ("EdgeStencil$Scene", "width", "I", false)
  | 1 => ("EdgeStencil$Scene", "height", "I", false)
  | 2 => ("EdgeStencil$Scene", "rows", "[I", true)
  | 3 => ("EdgeStencil$Scene", "dotX", "[I", true)
  | 4 => ("EdgeStencil$Scene", "dotY", "[I", true)
  | 5 => ("EdgeStencil$Scene", "dots", "I", false)
  | 6 => ("EdgeStencil$Scene", "metric", "I", false)
  | _ => ("EdgeStencil$Scene", "cap", "I", false)
def tyX7 : Nat → FieldType := fun k => match k with
  | 0 => .int
  | 1 => .int
  | 2 => .array .int
  | 3 => .array .int
  | 4 => .array .int
  | 5 => .int
  | 6 => .int
  | _ => .int
abbrev wsX70 : List Cond := u_ws RX7 TX7 8
theorem nmX7 : ∀ a, a < 8 → ∀ b, b < 8 → a ≠ b → (TX7 a).2.1 ≠ (TX7 b).2.1 := by decide +kernel
theorem tyX7_ok : ∀ k, k < 8 → parseFieldDescriptor (TX7 k).2.2.1 = some (tyX7 k) := by decide +kernel
abbrev cX7_init : ByteArray := prog_9_method_1_code
def yX7_init : MethodName := ⟨RX7, "<init>", "()V"⟩
abbrev cX7_clear : ByteArray := prog_9_method_2_code
def yX7_clear : MethodName := ⟨RX7, "clear", "()V"⟩
abbrev cX7_copyFrom : ByteArray := prog_9_method_3_code
def yX7_copyFrom : MethodName := ⟨RX7, "copyFrom", "(LEdgeStencil$Scene;)V"⟩
abbrev cX7_has : ByteArray := prog_9_method_4_code
def yX7_has : MethodName := ⟨RX7, "has", "(II)Z"⟩
abbrev cX7_edgeAt : ByteArray := prog_9_method_5_code
def yX7_edgeAt : MethodName := ⟨RX7, "edgeAt", "(II)I"⟩
abbrev cX7_flipEdge : ByteArray := prog_9_method_6_code
def yX7_flipEdge : MethodName := ⟨RX7, "flipEdge", "(II)V"⟩
abbrev cX7_clearEdges : ByteArray := prog_9_method_7_code
def yX7_clearEdges : MethodName := ⟨RX7, "clearEdges", "([I)V"⟩
abbrev cX7_edges : ByteArray := prog_9_method_8_code
def yX7_edges : MethodName := ⟨RX7, "edges", "()I"⟩
abbrev cX7_hasDot : ByteArray := prog_9_method_9_code
def yX7_hasDot : MethodName := ⟨RX7, "hasDot", "(II)Z"⟩
abbrev cX7_addDot : ByteArray := prog_9_method_10_code
def yX7_addDot : MethodName := ⟨RX7, "addDot", "(II)V"⟩
abbrev cX7_removeDot : ByteArray := prog_9_method_11_code
def yX7_removeDot : MethodName := ⟨RX7, "removeDot", "(I)V"⟩
abbrev cX7_apart : ByteArray := prog_9_method_12_code
def yX7_apart : MethodName := ⟨RX7, "apart", "(II)I"⟩
def RX8 : String := "EdgeStencil$Script"
def TX8 : u_T := fun k => match k with
  | 0 => ("EdgeStencil$Script", "letters", "[C", true)
  | _ => ("EdgeStencil$Script", "length", "I", false)
def tyX8 : Nat → FieldType := fun k => match k with
  | 0 => .array .char
  | _ => .int
abbrev wsX80 : List Cond := u_ws RX8 TX8 2
theorem nmX8 : ∀ a, a < 2 → ∀ b, b < 2 → a ≠ b → (TX8 a).2.1 ≠ (TX8 b).2.1 := by decide +kernel
theorem tyX8_ok : ∀ k, k < 2 → parseFieldDescriptor (TX8 k).2.2.1 = some (tyX8 k) := by decide +kernel
abbrev cX8_init : ByteArray := prog_10_method_1_code
def yX8_init : MethodName := ⟨RX8, "<init>", "()V"⟩
abbrev cX8_append : ByteArray := prog_10_method_2_code
def yX8_append : MethodName := ⟨RX8, "append", "(C)Z"⟩
abbrev cX8_at : ByteArray := prog_10_method_3_code
def yX8_at : MethodName := ⟨RX8, "at", "(I)C"⟩
def RX9 : String := "EdgeStencil$Shape"
def TX9 : u_T := fun k => match k with
  | 0 => ("EdgeStencil$Shape", "dx", "[I", true)
  | 1 => ("EdgeStencil$Shape", "dy", "[I", true)
  | 2 => ("EdgeStencil$Shape", "dots", "I", false)
  | 3 => ("EdgeStencil$Shape", "left", "I", false)
  | 4 => ("EdgeStencil$Shape", "right", "I", false)
  | 5 => ("EdgeStencil$Shape", "top", "I", false)
  | _ => ("EdgeStencil$Shape", "bottom", "I", false)
def tyX9 : Nat → FieldType := fun k => match k with
  | 0 => .array .int
  | 1 => .array .int
  | 2 => .int
  | 3 => .int
  | 4 => .int
  | 5 => .int
  | _ => .int
abbrev wsX90 : List Cond := u_ws RX9 TX9 7
theorem nmX9 : ∀ a, a < 7 → ∀ b, b < 7 → a ≠ b → (TX9 a).2.1 ≠ (TX9 b).2.1 := by decide +kernel
theorem tyX9_ok : ∀ k, k < 7 → parseFieldDescriptor (TX9 k).2.2.1 = some (tyX9 k) := by decide +kernel
abbrev cX9_init : ByteArray := prog_11_method_1_code
def yX9_init : MethodName := ⟨RX9, "<init>", "()V"⟩
abbrev cX9_form : ByteArray := prog_11_method_2_code
def yX9_form : MethodName := ⟨RX9, "form", "(LEdgeStencil$Scene;III)V"⟩
abbrev cX9_findBox : ByteArray := prog_11_method_3_code
def yX9_findBox : MethodName := ⟨RX9, "findBox", "()V"⟩
abbrev cX9_isInside : ByteArray := prog_11_method_4_code
def yX9_isInside : MethodName := ⟨RX9, "isInside", "(IIII)Z"⟩
def RX10 : String := "EdgeStencil$Told"
def TX10 : u_T := fun k => match k with
  | _ => ("EdgeStencil$Told", "rows", "[I", true)
def tyX10 : Nat → FieldType := fun k => match k with
  | _ => .array .int
abbrev wsX100 : List Cond := u_ws RX10 TX10 1
theorem nmX10 : ∀ a, a < 1 → ∀ b, b < 1 → a ≠ b → (TX10 a).2.1 ≠ (TX10 b).2.1 := by decide +kernel
theorem tyX10_ok : ∀ k, k < 1 → parseFieldDescriptor (TX10 k).2.2.1 = some (tyX10 k) := by decide +kernel
abbrev cX10_init : ByteArray := prog_12_method_1_code
def yX10_init : MethodName := ⟨RX10, "<init>", "()V"⟩
abbrev cX10_seek : ByteArray := prog_12_method_2_code
def yX10_seek : MethodName := ⟨RX10, "seek", "(LEdgeStencil$Scene;LEdgeStencil$Shape;III)I"⟩
abbrev cX10_isNear : ByteArray := prog_12_method_3_code
def yX10_isNear : MethodName := ⟨RX10, "isNear", "(LEdgeStencil$Scene;LEdgeStencil$Shape;III)Z"⟩
def RX11 : String := "EdgeStencil"
def TX11 : u_T := fun k => match k with
  | 0 => ("EdgeStencil", "script", "LEdgeStencil$Script;", true)
  | 1 => ("EdgeStencil", "reader", "LEdgeStencil$Reader;", true)
  | 2 => ("EdgeStencil", "scene", "LEdgeStencil$Scene;", true)
  | 3 => ("EdgeStencil", "history", "LEdgeStencil$History;", true)
  | 4 => ("EdgeStencil", "book", "LEdgeStencil$Book;", true)
  | 5 => ("EdgeStencil", "field", "LEdgeStencil$Field;", true)
  | 6 => ("EdgeStencil", "ranking", "LEdgeStencil$Ranking;", true)
  | 7 => ("EdgeStencil", "shape", "LEdgeStencil$Shape;", true)
  | 8 => ("EdgeStencil", "fit", "LEdgeStencil$Fit;", true)
  | 9 => ("EdgeStencil", "told", "LEdgeStencil$Told;", true)
  | 10 => ("EdgeStencil", "scale", "I", false)
  | 11 => ("EdgeStencil", "turns", "I", false)
  | 12 => ("EdgeStencil", "flip", "I", false)
  | 13 => ("EdgeStencil", "fieldStale", "Z", false)
  | _ => ("EdgeStencil", "rankingStale", "Z", false)
def tyX11 : Nat → FieldType := fun k => match k with
  | 0 => .object "EdgeStencil$Script"
  | 1 => .object "EdgeStencil$Reader"
  | 2 => .object "EdgeStencil$Scene"
  | 3 => .object "EdgeStencil$History"
  | 4 => .object "EdgeStencil$Book"
  | 5 => .object "EdgeStencil$Field"
  | 6 => .object "EdgeStencil$Ranking"
  | 7 => .object "EdgeStencil$Shape"
  | 8 => .object "EdgeStencil$Fit"
  | 9 => .object "EdgeStencil$Told"
  | 10 => .int
  | 11 => .int
  | 12 => .int
  | 13 => .boolean
  | _ => .boolean
abbrev wsX110 : List Cond := u_ws RX11 TX11 15
theorem nmX11 : ∀ a, a < 15 → ∀ b, b < 15 → a ≠ b → (TX11 a).2.1 ≠ (TX11 b).2.1 := by decide +kernel
theorem tyX11_ok : ∀ k, k < 15 → parseFieldDescriptor (TX11 k).2.2.1 = some (tyX11 k) := by decide +kernel
abbrev cX11_init : ByteArray := prog_1_method_1_code
def yX11_init : MethodName := ⟨RX11, "<init>", "()V"⟩
abbrev cX11_write : ByteArray := prog_1_method_2_code
def yX11_write : MethodName := ⟨RX11, "write", "(I)I"⟩
abbrev cX11_wipe : ByteArray := prog_1_method_3_code
def yX11_wipe : MethodName := ⟨RX11, "wipe", "()I"⟩
abbrev cX11_fault : ByteArray := prog_1_method_4_code
def yX11_fault : MethodName := ⟨RX11, "fault", "()I"⟩
abbrev cX11_lay : ByteArray := prog_1_method_5_code
def yX11_lay : MethodName := ⟨RX11, "lay", "()I"⟩
abbrev cX11_edge : ByteArray := prog_1_method_6_code
def yX11_edge : MethodName := ⟨RX11, "edge", "(III)I"⟩
abbrev cX11_dot : ByteArray := prog_1_method_7_code
def yX11_dot : MethodName := ⟨RX11, "dot", "(II)I"⟩
abbrev cX11_drop : ByteArray := prog_1_method_8_code
def yX11_drop : MethodName := ⟨RX11, "drop", "(I)I"⟩
abbrev cX11_measure : ByteArray := prog_1_method_9_code
def yX11_measure : MethodName := ⟨RX11, "measure", "(II)I"⟩
abbrev cX11_undo : ByteArray := prog_1_method_10_code
def yX11_undo : MethodName := ⟨RX11, "undo", "()I"⟩
abbrev cX11_cell : ByteArray := prog_1_method_11_code
def yX11_cell : MethodName := ⟨RX11, "cell", "(II)I"⟩
abbrev cX11_far : ByteArray := prog_1_method_12_code
def yX11_far : MethodName := ⟨RX11, "far", "(II)I"⟩
abbrev cX11_nearest : ByteArray := prog_1_method_13_code
def yX11_nearest : MethodName := ⟨RX11, "nearest", "(II)I"⟩
abbrev cX11_rings : ByteArray := prog_1_method_14_code
def yX11_rings : MethodName := ⟨RX11, "rings", "(I)I"⟩
abbrev cX11_turn : ByteArray := prog_1_method_15_code
def yX11_turn : MethodName := ⟨RX11, "turn", "(III)I"⟩
abbrev cX11_lies : ByteArray := prog_1_method_16_code
def yX11_lies : MethodName := ⟨RX11, "lies", "(II)I"⟩
abbrev cX11_pose : ByteArray := prog_1_method_17_code
def yX11_pose : MethodName := ⟨RX11, "pose", "(III)I"⟩
abbrev cX11_fits : ByteArray := prog_1_method_18_code
def yX11_fits : MethodName := ⟨RX11, "fits", "()I"⟩
abbrev cX11_bound : ByteArray := prog_1_method_19_code
def yX11_bound : MethodName := ⟨RX11, "bound", "(III)I"⟩
abbrev cX11_tells : ByteArray := prog_1_method_20_code
def yX11_tells : MethodName := ⟨RX11, "tells", "(III)I"⟩
abbrev cX11_best : ByteArray := prog_1_method_21_code
def yX11_best : MethodName := ⟨RX11, "best", "(II)I"⟩
abbrev cX11_spread : ByteArray := prog_1_method_22_code
def yX11_spread : MethodName := ⟨RX11, "spread", "(III)I"⟩
abbrev cX11_take : ByteArray := prog_1_method_23_code
def yX11_take : MethodName := ⟨RX11, "take", "(II)I"⟩
abbrev cX11_takes : ByteArray := prog_1_method_24_code
def yX11_takes : MethodName := ⟨RX11, "takes", "(II)I"⟩
abbrev cX11_ledger : ByteArray := prog_1_method_25_code
def yX11_ledger : MethodName := ⟨RX11, "ledger", "(II)I"⟩
abbrev cX11_count : ByteArray := prog_1_method_26_code
def yX11_count : MethodName := ⟨RX11, "count", "(I)I"⟩
abbrev cX11_isFrom : ByteArray := prog_1_method_27_code
def yX11_isFrom : MethodName := ⟨RX11, "isFrom", "(III)Z"⟩
abbrev cX11_isDot : ByteArray := prog_1_method_28_code
def yX11_isDot : MethodName := ⟨RX11, "isDot", "(I)Z"⟩
abbrev cX11_lookAt : ByteArray := prog_1_method_29_code
def yX11_lookAt : MethodName := ⟨RX11, "lookAt", "(III)V"⟩
abbrev cX11_lookedAt : ByteArray := prog_1_method_30_code
def yX11_lookedAt : MethodName := ⟨RX11, "lookedAt", "()LEdgeStencil$Shape;"⟩
abbrev cX11_startChange : ByteArray := prog_1_method_31_code
def yX11_startChange : MethodName := ⟨RX11, "startChange", "()V"⟩
abbrev cX11_makeStale : ByteArray := prog_1_method_32_code
def yX11_makeStale : MethodName := ⟨RX11, "makeStale", "()V"⟩
abbrev cX11_freshField : ByteArray := prog_1_method_33_code
def yX11_freshField : MethodName := ⟨RX11, "freshField", "()LEdgeStencil$Field;"⟩
abbrev cX11_freshRanking : ByteArray := prog_1_method_34_code
def yX11_freshRanking : MethodName := ⟨RX11, "freshRanking", "()LEdgeStencil$Ranking;"⟩
abbrev cX11_partOf : ByteArray := prog_1_method_35_code
def yX11_partOf : MethodName := ⟨RX11, "partOf", "([IIII)I"⟩
abbrev cX11_takeFirst : ByteArray := prog_1_method_36_code
def yX11_takeFirst : MethodName := ⟨RX11, "takeFirst", "(II)I"⟩
def RX12 : String := "EdgeStencilModel"
def TX12 : u_T := fun k => match k with
  | 0 => ("EdgeStencilModel", "wide", "I", false)
  | 1 => ("EdgeStencilModel", "high", "I", false)
  | 2 => ("EdgeStencilModel", "now", "[I", true)
  | 3 => ("EdgeStencilModel", "changes", "[I", true)
  | 4 => ("EdgeStencilModel", "changeMany", "I", false)
  | 5 => ("EdgeStencilModel", "changeAt", "I", false)
  | 6 => ("EdgeStencilModel", "ledger", "[I", true)
  | 7 => ("EdgeStencilModel", "scale", "I", false)
  | 8 => ("EdgeStencilModel", "quarters", "I", false)
  | 9 => ("EdgeStencilModel", "flipped", "I", false)
  | 10 => ("EdgeStencilModel", "text", "[I", true)
  | 11 => ("EdgeStencilModel", "letterMany", "I", false)
  | 12 => ("EdgeStencilModel", "newWide", "I", false)
  | 13 => ("EdgeStencilModel", "newHigh", "I", false)
  | 14 => ("EdgeStencilModel", "newRows", "I", false)
  | 15 => ("EdgeStencilModel", "fresh", "[I", true)
  | 16 => ("EdgeStencilModel", "firstRows", "[I", true)
  | 17 => ("EdgeStencilModel", "firstDots", "[I", true)
  | 18 => ("EdgeStencilModel", "fars", "[I", true)
  | 19 => ("EdgeStencilModel", "illIs", "I", false)
  | 20 => ("EdgeStencilModel", "worstIs", "I", false)
  | 21 => ("EdgeStencilModel", "worstDot", "I", false)
  | 22 => ("EdgeStencilModel", "onEdges", "I", false)
  | 23 => ("EdgeStencilModel", "ranks", "[I", true)
  | 24 => ("EdgeStencilModel", "rankMany", "I", false)
  | 25 => ("EdgeStencilModel", "chosen", "[I", true)
  | _ => ("EdgeStencilModel", "chosenMany", "I", false)
def tyX12 : Nat → FieldType := fun k => match k with
  | 0 => .int
  | 1 => .int
  | 2 => .array .int
  | 3 => .array .int
  | 4 => .int
  | 5 => .int
  | 6 => .array .int
  | 7 => .int
  | 8 => .int
  | 9 => .int
  | 10 => .array .int
  | 11 => .int
  | 12 => .int
  | 13 => .int
  | 14 => .int
  | 15 => .array .int
  | 16 => .array .int
  | 17 => .array .int
  | 18 => .array .int
  | 19 => .int
  | 20 => .int
  | 21 => .int
  | 22 => .int
  | 23 => .array .int
  | 24 => .int
  | 25 => .array .int
  | _ => .int
abbrev wsX120 : List Cond := u_ws RX12 TX12 27
theorem nmX12 : ∀ a, a < 27 → ∀ b, b < 27 → a ≠ b → (TX12 a).2.1 ≠ (TX12 b).2.1 := by decide +kernel
theorem tyX12_ok : ∀ k, k < 27 → parseFieldDescriptor (TX12 k).2.2.1 = some (tyX12 k) := by decide +kernel
abbrev cX12_in : ByteArray := prog_14_method_1_code
def yX12_in : MethodName := ⟨RX12, "in", "(III)Z"⟩
abbrev cX12_init : ByteArray := prog_14_method_2_code
def yX12_init : MethodName := ⟨RX12, "<init>", "()V"⟩
abbrev cX12_write : ByteArray := prog_14_method_3_code
def yX12_write : MethodName := ⟨RX12, "write", "(I)I"⟩
abbrev cX12_wipe : ByteArray := prog_14_method_4_code
def yX12_wipe : MethodName := ⟨RX12, "wipe", "()I"⟩
abbrev cX12_letter : ByteArray := prog_14_method_5_code
def yX12_letter : MethodName := ⟨RX12, "letter", "(I)I"⟩
abbrev cX12_signOf : ByteArray := prog_14_method_6_code
def yX12_signOf : MethodName := ⟨RX12, "signOf", "(I)I"⟩
abbrev cX12_readsGrid : ByteArray := prog_14_method_7_code
def yX12_readsGrid : MethodName := ⟨RX12, "readsGrid", "(I)Z"⟩
abbrev cX12_readsRow : ByteArray := prog_14_method_8_code
def yX12_readsRow : MethodName := ⟨RX12, "readsRow", "(I)Z"⟩
abbrev cX12_readsDot : ByteArray := prog_14_method_9_code
def yX12_readsDot : MethodName := ⟨RX12, "readsDot", "(I)Z"⟩
abbrev cX12_readsMeasure : ByteArray := prog_14_method_10_code
def yX12_readsMeasure : MethodName := ⟨RX12, "readsMeasure", "(I)Z"⟩
abbrev cX12_dotAt : ByteArray := prog_14_method_11_code
def yX12_dotAt : MethodName := ⟨RX12, "dotAt", "([III)I"⟩
abbrev cX12_comesDot : ByteArray := prog_14_method_12_code
def yX12_comesDot : MethodName := ⟨RX12, "comesDot", "([III)V"⟩
abbrev cX12_readsItem : ByteArray := prog_14_method_13_code
def yX12_readsItem : MethodName := ⟨RX12, "readsItem", "(I)I"⟩
abbrev cX12_reads : ByteArray := prog_14_method_14_code
def yX12_reads : MethodName := ⟨RX12, "reads", "()I"⟩
abbrev cX12_fault : ByteArray := prog_14_method_15_code
def yX12_fault : MethodName := ⟨RX12, "fault", "()I"⟩
abbrev cX12_lay : ByteArray := prog_14_method_16_code
def yX12_lay : MethodName := ⟨RX12, "lay", "()I"⟩
abbrev cX12_edges : ByteArray := prog_14_method_17_code
def yX12_edges : MethodName := ⟨RX12, "edges", "()I"⟩
abbrev cX12_remembers : ByteArray := prog_14_method_18_code
def yX12_remembers : MethodName := ⟨RX12, "remembers", "()V"⟩
abbrev cX12_undo : ByteArray := prog_14_method_19_code
def yX12_undo : MethodName := ⟨RX12, "undo", "()I"⟩
abbrev cX12_isCell : ByteArray := prog_14_method_20_code
def yX12_isCell : MethodName := ⟨RX12, "isCell", "(II)Z"⟩
abbrev cX12_at : ByteArray := prog_14_method_21_code
def yX12_at : MethodName := ⟨RX12, "at", "(II)I"⟩
abbrev cX12_edge : ByteArray := prog_14_method_22_code
def yX12_edge : MethodName := ⟨RX12, "edge", "(III)I"⟩
abbrev cX12_dot : ByteArray := prog_14_method_23_code
def yX12_dot : MethodName := ⟨RX12, "dot", "(II)I"⟩
abbrev cX12_isDot : ByteArray := prog_14_method_24_code
def yX12_isDot : MethodName := ⟨RX12, "isDot", "(I)Z"⟩
abbrev cX12_drop : ByteArray := prog_14_method_25_code
def yX12_drop : MethodName := ⟨RX12, "drop", "(I)I"⟩
abbrev cX12_measure : ByteArray := prog_14_method_26_code
def yX12_measure : MethodName := ⟨RX12, "measure", "(II)I"⟩
abbrev cX12_apart : ByteArray := prog_14_method_27_code
def yX12_apart : MethodName := ⟨RX12, "apart", "(IIII)I"⟩
abbrev cX12_nearestOf : ByteArray := prog_14_method_28_code
def yX12_nearestOf : MethodName := ⟨RX12, "nearestOf", "(II)I"⟩
abbrev cX12_farOf : ByteArray := prog_14_method_29_code
def yX12_farOf : MethodName := ⟨RX12, "farOf", "(II)I"⟩
abbrev cX12_cell : ByteArray := prog_14_method_30_code
def yX12_cell : MethodName := ⟨RX12, "cell", "(II)I"⟩
abbrev cX12_far : ByteArray := prog_14_method_31_code
def yX12_far : MethodName := ⟨RX12, "far", "(II)I"⟩
abbrev cX12_nearest : ByteArray := prog_14_method_32_code
def yX12_nearest : MethodName := ⟨RX12, "nearest", "(II)I"⟩
abbrev cX12_rings : ByteArray := prog_14_method_33_code
def yX12_rings : MethodName := ⟨RX12, "rings", "(I)I"⟩
abbrev cX12_laysFars : ByteArray := prog_14_method_34_code
def yX12_laysFars : MethodName := ⟨RX12, "laysFars", "()V"⟩
abbrev cX12_turn : ByteArray := prog_14_method_35_code
def yX12_turn : MethodName := ⟨RX12, "turn", "(III)I"⟩
abbrev cX12_halved : ByteArray := prog_14_method_36_code
def yX12_halved : MethodName := ⟨RX12, "halved", "(II)I"⟩
abbrev cX12_liesX : ByteArray := prog_14_method_37_code
def yX12_liesX : MethodName := ⟨RX12, "liesX", "(IIII)I"⟩
abbrev cX12_liesY : ByteArray := prog_14_method_38_code
def yX12_liesY : MethodName := ⟨RX12, "liesY", "(IIII)I"⟩
abbrev cX12_lies : ByteArray := prog_14_method_39_code
def yX12_lies : MethodName := ⟨RX12, "lies", "(II)I"⟩
abbrev cX12_looks : ByteArray := prog_14_method_40_code
def yX12_looks : MethodName := ⟨RX12, "looks", "(IIIII)Z"⟩
abbrev cX12_pose : ByteArray := prog_14_method_41_code
def yX12_pose : MethodName := ⟨RX12, "pose", "(III)I"⟩
abbrev cX12_fits : ByteArray := prog_14_method_42_code
def yX12_fits : MethodName := ⟨RX12, "fits", "()I"⟩
abbrev cX12_bound : ByteArray := prog_14_method_43_code
def yX12_bound : MethodName := ⟨RX12, "bound", "(III)I"⟩
abbrev cX12_isTold : ByteArray := prog_14_method_44_code
def yX12_isTold : MethodName := ⟨RX12, "isTold", "(IIIIIII)Z"⟩
abbrev cX12_toldMany : ByteArray := prog_14_method_45_code
def yX12_toldMany : MethodName := ⟨RX12, "toldMany", "(IIIIII)I"⟩
abbrev cX12_tells : ByteArray := prog_14_method_46_code
def yX12_tells : MethodName := ⟨RX12, "tells", "(III)I"⟩
abbrev cX12_laysRanks : ByteArray := prog_14_method_47_code
def yX12_laysRanks : MethodName := ⟨RX12, "laysRanks", "()V"⟩
abbrev cX12_placeOf : ByteArray := prog_14_method_48_code
def yX12_placeOf : MethodName := ⟨RX12, "placeOf", "(I)I"⟩
abbrev cX12_isApart : ByteArray := prog_14_method_49_code
def yX12_isApart : MethodName := ⟨RX12, "isApart", "(II)Z"⟩
abbrev cX12_chooses : ByteArray := prog_14_method_50_code
def yX12_chooses : MethodName := ⟨RX12, "chooses", "(I)V"⟩
abbrev cX12_partOf : ByteArray := prog_14_method_51_code
def yX12_partOf : MethodName := ⟨RX12, "partOf", "(II)I"⟩
abbrev cX12_chosenIs : ByteArray := prog_14_method_52_code
def yX12_chosenIs : MethodName := ⟨RX12, "chosenIs", "(III)I"⟩
abbrev cX12_best : ByteArray := prog_14_method_53_code
def yX12_best : MethodName := ⟨RX12, "best", "(II)I"⟩
abbrev cX12_spread : ByteArray := prog_14_method_54_code
def yX12_spread : MethodName := ⟨RX12, "spread", "(III)I"⟩
abbrev cX12_takeOne : ByteArray := prog_14_method_55_code
def yX12_takeOne : MethodName := ⟨RX12, "takeOne", "(II)I"⟩
abbrev cX12_isTaking : ByteArray := prog_14_method_56_code
def yX12_isTaking : MethodName := ⟨RX12, "isTaking", "(II)Z"⟩
abbrev cX12_take : ByteArray := prog_14_method_57_code
def yX12_take : MethodName := ⟨RX12, "take", "(II)I"⟩
abbrev cX12_takes : ByteArray := prog_14_method_58_code
def yX12_takes : MethodName := ⟨RX12, "takes", "(II)I"⟩
abbrev cX12_ledger : ByteArray := prog_14_method_59_code
def yX12_ledger : MethodName := ⟨RX12, "ledger", "(II)I"⟩
abbrev cX12_count : ByteArray := prog_14_method_60_code
def yX12_count : MethodName := ⟨RX12, "count", "(I)I"⟩
def RJ6 : String := "java/lang/Integer"
def TJ6 : u_T := fun k => match k with
  | _ => ("", "", "", false)
def tyJ6 : Nat → FieldType := fun k => match k with
  | _ => .int
abbrev wsJ60 : List Cond := u_ws RJ6 TJ6 0
theorem nmJ6 : ∀ a, a < 0 → ∀ b, b < 0 → a ≠ b → (TJ6 a).2.1 ≠ (TJ6 b).2.1 := by decide +kernel
theorem tyJ6_ok : ∀ k, k < 0 → parseFieldDescriptor (TJ6 k).2.2.1 = some (tyJ6 k) := by decide +kernel
abbrev cJ6_bitCount_0f7a4 : ByteArray := prog_15_method_49_code
def yJ6_bitCount_0f7a4 : MethodName := ⟨RJ6, "bitCount", "(I)I"⟩
def RJ9 : String := "java/lang/Math"
def TJ9 : u_T := fun k => match k with
  | _ => ("", "", "", false)
def tyJ9 : Nat → FieldType := fun k => match k with
  | _ => .int
abbrev wsJ90 : List Cond := u_ws RJ9 TJ9 0
theorem nmJ9 : ∀ a, a < 0 → ∀ b, b < 0 → a ≠ b → (TJ9 a).2.1 ≠ (TJ9 b).2.1 := by decide +kernel
theorem tyJ9_ok : ∀ k, k < 0 → parseFieldDescriptor (TJ9 k).2.2.1 = some (tyJ9 k) := by decide +kernel
abbrev cJ9_floorDiv_7cf53 : ByteArray := prog_16_method_47_code
def yJ9_floorDiv_7cf53 : MethodName := ⟨RJ9, "floorDiv", "(II)I"⟩
abbrev cJ9_abs_0f7a4 : ByteArray := prog_16_method_59_code
def yJ9_abs_0f7a4 : MethodName := ⟨RJ9, "abs", "(I)I"⟩
abbrev cJ9_max_7cf53 : ByteArray := prog_16_method_65_code
def yJ9_max_7cf53 : MethodName := ⟨RJ9, "max", "(II)I"⟩
abbrev cJ9_min_7cf53 : ByteArray := prog_16_method_69_code
def yJ9_min_7cf53 : MethodName := ⟨RJ9, "min", "(II)I"⟩
def RJ0 : String := "java/lang/String"
def TJ0 : u_T := fun k => match k with
  | _ => ("", "", "", false)
def tyJ0 : Nat → FieldType := fun k => match k with
  | _ => .int
abbrev wsJ00 : List Cond := u_ws RJ0 TJ0 0
theorem nmJ0 : ∀ a, a < 0 → ∀ b, b < 0 → a ≠ b → (TJ0 a).2.1 ≠ (TJ0 b).2.1 := by decide +kernel
theorem tyJ0_ok : ∀ k, k < 0 → parseFieldDescriptor (TJ0 k).2.2.1 = some (tyJ0 k) := by decide +kernel
abbrev cJ0_length_8abf5 : ByteArray := prog_17_method_54_code
def yJ0_length_8abf5 : MethodName := ⟨RJ0, "length", "()I"⟩
abbrev cJ0_charAt_5068e : ByteArray := prog_17_method_56_code
def yJ0_charAt_5068e : MethodName := ⟨RJ0, "charAt", "(I)C"⟩
abbrev cJ0_coder_7d493 : ByteArray := prog_17_method_152_code
def yJ0_coder_7d493 : MethodName := ⟨RJ0, "coder", "()B"⟩
abbrev cJ0_isLatin1_aae02 : ByteArray := prog_17_method_154_code
def yJ0_isLatin1_aae02 : MethodName := ⟨RJ0, "isLatin1", "()Z"⟩
abbrev cJ0_checkIndex_df160 : ByteArray := prog_17_method_155_code
def yJ0_checkIndex_df160 : MethodName := ⟨RJ0, "checkIndex", "(II)V"⟩
def RJ1 : String := "java/lang/StringLatin1"
def TJ1 : u_T := fun k => match k with
  | _ => ("", "", "", false)
def tyJ1 : Nat → FieldType := fun k => match k with
  | _ => .int
abbrev wsJ10 : List Cond := u_ws RJ1 TJ1 0
theorem nmJ1 : ∀ a, a < 0 → ∀ b, b < 0 → a ≠ b → (TJ1 a).2.1 ≠ (TJ1 b).2.1 := by decide +kernel
theorem tyJ1_ok : ∀ k, k < 0 → parseFieldDescriptor (TJ1 k).2.2.1 = some (tyJ1 k) := by decide +kernel
abbrev cJ1_charAt_3b067 : ByteArray := prog_18_method_2_code
def yJ1_charAt_3b067 : MethodName := ⟨RJ1, "charAt", "([BI)C"⟩
def RJ2 : String := "java/lang/StringUTF16"
def TJ2 : u_T := fun k => match k with
  | _ => ("", "", "", false)
def tyJ2 : Nat → FieldType := fun k => match k with
  | _ => .int
abbrev wsJ20 : List Cond := u_ws RJ2 TJ2 0
theorem nmJ2 : ∀ a, a < 0 → ∀ b, b < 0 → a ≠ b → (TJ2 a).2.1 ≠ (TJ2 b).2.1 := by decide +kernel
theorem tyJ2_ok : ∀ k, k < 0 → parseFieldDescriptor (TJ2 k).2.2.1 = some (tyJ2 k) := by decide +kernel
abbrev cJ2_getChar_3b067 : ByteArray := prog_19_method_5_code
def yJ2_getChar_3b067 : MethodName := ⟨RJ2, "getChar", "([BI)C"⟩
abbrev cJ2_length_9d52b : ByteArray := prog_19_method_6_code
def yJ2_length_9d52b : MethodName := ⟨RJ2, "length", "([B)I"⟩
abbrev cJ2_charAt_3b067 : ByteArray := prog_19_method_83_code
def yJ2_charAt_3b067 : MethodName := ⟨RJ2, "charAt", "([BI)C"⟩
abbrev cJ2_checkIndex_2214a : ByteArray := prog_19_method_91_code
def yJ2_checkIndex_2214a : MethodName := ⟨RJ2, "checkIndex", "(I[B)V"⟩
def RJ3 : String := "jdk/internal/util/Preconditions"
def TJ3 : u_T := fun k => match k with
  | _ => ("", "", "", false)
def tyJ3 : Nat → FieldType := fun k => match k with
  | _ => .int
abbrev wsJ30 : List Cond := u_ws RJ3 TJ3 0
theorem nmJ3 : ∀ a, a < 0 → ∀ b, b < 0 → a ≠ b → (TJ3 a).2.1 ≠ (TJ3 b).2.1 := by decide +kernel
theorem tyJ3_ok : ∀ k, k < 0 → parseFieldDescriptor (TJ3 k).2.2.1 = some (tyJ3 k) := by decide +kernel
abbrev cJ3_checkIndex_8e157 : ByteArray := prog_20_method_11_code
def yJ3_checkIndex_8e157 : MethodName := ⟨RJ3, "checkIndex", "(IILjava/util/function/BiFunction;)I"⟩
def RL : String := "EdgeStencilLaw"
abbrev cL_law : ByteArray := code
def yL_law : MethodName := ⟨RL, "law", "([I)Z"⟩
abbrev vwCl : List vw_C := [(RX0, TX0, 3), (RX1, TX1, 3), (RX2, TX2, 4), (RX3, TX3, 4), (RX5, TX5, 9), (RX6, TX6, 3), (RX7, TX7, 8), (RX8, TX8, 2), (RX9, TX9, 7), (RX10, TX10, 1), (RX11, TX11, 15), (RX12, TX12, 27)]
end
section
def wsL_law_r1 : List Cond := [Cond.classLink RL 7 RX11, Cond.instantiable RX11 15, Cond.initialized RX11, Cond.classLink RL 10 RX12, Cond.instantiable RX12 27, Cond.initialized RX12, Cond.methodLink RL 9 yX11_init, Cond.instanceMethod yX11_init, Cond.code yX11_init cX11_init 2 none, Cond.methodLink RX11 1 objectInit, Cond.instanceMethod objectInit, Cond.code objectInit ⟨#[0xb1]⟩ 1 none, Cond.classLink RX11 7 RX8, Cond.instantiable RX8 2, Cond.initialized RX8, Cond.fieldLink RX11 10 "EdgeStencil" "script" "LEdgeStencil$Script;", Cond.classLink RX11 16 RX6, Cond.instantiable RX6 3, Cond.initialized RX6, Cond.fieldLink RX11 19 "EdgeStencil" "reader" "LEdgeStencil$Reader;", Cond.classLink RX11 23 RX7, Cond.instantiable RX7 8, Cond.initialized RX7, Cond.fieldLink RX11 26 "EdgeStencil" "scene" "LEdgeStencil$Scene;"]
def wsL_law_r2 : List Cond := [Cond.classLink RX11 30 RX3, Cond.instantiable RX3 4, Cond.initialized RX3, Cond.fieldLink RX11 33 "EdgeStencil" "history" "LEdgeStencil$History;", Cond.classLink RX11 37 RX0, Cond.instantiable RX0 3, Cond.initialized RX0, Cond.fieldLink RX11 40 "EdgeStencil" "book" "LEdgeStencil$Book;", Cond.classLink RX11 44 RX1, Cond.instantiable RX1 3, Cond.initialized RX1, Cond.fieldLink RX11 47 "EdgeStencil" "field" "LEdgeStencil$Field;", Cond.classLink RX11 51 RX5, Cond.instantiable RX5 9, Cond.initialized RX5, Cond.fieldLink RX11 54 "EdgeStencil" "ranking" "LEdgeStencil$Ranking;", Cond.classLink RX11 58 RX9, Cond.instantiable RX9 7, Cond.initialized RX9, Cond.fieldLink RX11 61 "EdgeStencil" "shape" "LEdgeStencil$Shape;", Cond.classLink RX11 65 RX2, Cond.instantiable RX2 4, Cond.initialized RX2, Cond.fieldLink RX11 68 "EdgeStencil" "fit" "LEdgeStencil$Fit;"]
def wsL_law_r3 : List Cond := [Cond.classLink RX11 72 RX10, Cond.instantiable RX10 1, Cond.initialized RX10, Cond.fieldLink RX11 75 "EdgeStencil" "told" "LEdgeStencil$Told;", Cond.fieldLink RX11 79 "EdgeStencil" "scale" "I", Cond.fieldLink RX11 83 "EdgeStencil" "turns" "I", Cond.fieldLink RX11 86 "EdgeStencil" "flip" "I", Cond.fieldLink RX11 89 "EdgeStencil" "fieldStale" "Z", Cond.fieldLink RX11 93 "EdgeStencil" "rankingStale" "Z", Cond.instanceMethod yX8_init, Cond.code yX8_init cX8_init 1 none, Cond.methodLink RX8 3 objectInit, Cond.arrayClass .char, Cond.fieldLink RX8 9 "EdgeStencil$Script" "letters" "[C", Cond.fieldLink RX8 15 "EdgeStencil$Script" "length" "I", Cond.instanceMethod yX6_init, Cond.code yX6_init cX6_init 1 none, Cond.methodLink RX6 3 objectInit, Cond.classLink RX6 9 RX7, Cond.fieldLink RX6 12 "EdgeStencil$Reader" "scene" "LEdgeStencil$Scene;", Cond.fieldLink RX6 18 "EdgeStencil$Reader" "gridTold" "Z", Cond.fieldLink RX6 22 "EdgeStencil$Reader" "rowsTold" "I", Cond.instanceMethod yX7_init, Cond.code yX7_init cX7_init 1 none]
def wsL_law_r4 : List Cond := [Cond.methodLink RX7 3 objectInit, Cond.fieldLink RX7 9 "EdgeStencil$Scene" "width" "I", Cond.fieldLink RX7 15 "EdgeStencil$Scene" "height" "I", Cond.arrayClass .int, Cond.fieldLink RX7 18 "EdgeStencil$Scene" "rows" "[I", Cond.fieldLink RX7 22 "EdgeStencil$Scene" "dotX" "[I", Cond.fieldLink RX7 25 "EdgeStencil$Scene" "dotY" "[I", Cond.fieldLink RX7 28 "EdgeStencil$Scene" "dots" "I", Cond.fieldLink RX7 31 "EdgeStencil$Scene" "metric" "I", Cond.fieldLink RX7 34 "EdgeStencil$Scene" "cap" "I", Cond.methodLink RX11 32 yX3_init, Cond.instanceMethod yX3_init, Cond.code yX3_init cX3_init 2 none, Cond.methodLink RX3 3 objectInit, Cond.classLink RX3 9 RX7, Cond.fieldLink RX3 11 "EdgeStencil$History" "scenes" "[LEdgeStencil$Scene;", Cond.fieldLink RX3 17 "EdgeStencil$History" "bookSizes" "[I", Cond.fieldLink RX3 21 "EdgeStencil$History" "next" "I", Cond.fieldLink RX3 25 "EdgeStencil$History" "size" "I", Cond.instanceMethod yX0_init, Cond.code yX0_init cX0_init 1 none, Cond.methodLink RX0 3 objectInit, Cond.fieldLink RX0 9 "EdgeStencil$Book" "ranks" "[I", Cond.fieldLink RX0 15 "EdgeStencil$Book" "gone" "[I"]
def wsL_law_r5 : List Cond := [Cond.fieldLink RX0 18 "EdgeStencil$Book" "size" "I", Cond.instanceMethod yX1_init, Cond.code yX1_init cX1_init 1 none, Cond.methodLink RX1 3 objectInit, Cond.fieldLink RX1 11 "EdgeStencil$Field" "fars" "[I", Cond.fieldLink RX1 15 "EdgeStencil$Field" "width" "I", Cond.fieldLink RX1 19 "EdgeStencil$Field" "height" "I", Cond.instanceMethod yX5_init, Cond.code yX5_init cX5_init 1 none, Cond.methodLink RX5 3 objectInit, Cond.classLink RX5 9 RX9, Cond.fieldLink RX5 12 "EdgeStencil$Ranking" "shape" "LEdgeStencil$Shape;", Cond.classLink RX5 18 RX2, Cond.fieldLink RX5 21 "EdgeStencil$Ranking" "fit" "LEdgeStencil$Fit;", Cond.fieldLink RX5 25 "EdgeStencil$Ranking" "first" "[I", Cond.fieldLink RX5 29 "EdgeStencil$Ranking" "found" "I", Cond.fieldLink RX5 35 "EdgeStencil$Ranking" "firstAtPlace" "[I", Cond.arrayClass .boolean, Cond.fieldLink RX5 38 "EdgeStencil$Ranking" "open" "[Z", Cond.fieldLink RX5 42 "EdgeStencil$Ranking" "chosen" "[I", Cond.fieldLink RX5 45 "EdgeStencil$Ranking" "chosenCount" "I", Cond.fieldLink RX5 48 "EdgeStencil$Ranking" "chosenBy" "I", Cond.instanceMethod yX9_init, Cond.code yX9_init cX9_init 1 none]
def wsL_law_r6 : List Cond := [Cond.methodLink RX9 3 objectInit, Cond.fieldLink RX9 9 "EdgeStencil$Shape" "dx" "[I", Cond.fieldLink RX9 15 "EdgeStencil$Shape" "dy" "[I", Cond.fieldLink RX9 18 "EdgeStencil$Shape" "dots" "I", Cond.fieldLink RX9 22 "EdgeStencil$Shape" "left" "I", Cond.fieldLink RX9 25 "EdgeStencil$Shape" "right" "I", Cond.fieldLink RX9 28 "EdgeStencil$Shape" "top" "I", Cond.fieldLink RX9 31 "EdgeStencil$Shape" "bottom" "I", Cond.instanceMethod yX2_init, Cond.code yX2_init cX2_init 1 none, Cond.methodLink RX2 1 objectInit, Cond.fieldLink RX2 7 "EdgeStencil$Fit" "ill" "I", Cond.fieldLink RX2 13 "EdgeStencil$Fit" "worst" "I", Cond.fieldLink RX2 16 "EdgeStencil$Fit" "worstDot" "I", Cond.fieldLink RX2 19 "EdgeStencil$Fit" "onEdges" "I", Cond.instanceMethod yX10_init, Cond.code yX10_init cX10_init 1 none, Cond.methodLink RX10 3 objectInit, Cond.fieldLink RX10 9 "EdgeStencil$Told" "rows" "[I", Cond.methodLink RX11 98 yJ0_length_8abf5, Cond.instanceMethod yJ0_length_8abf5, Cond.selects RJ0 yJ0_length_8abf5 yJ0_length_8abf5, Cond.initialized RJ0, Cond.code yJ0_length_8abf5 cJ0_length_8abf5 1 (some .int)]
def wsL_law_r7 : List Cond := [Cond.fieldLink RJ0 9 "java/lang/String" "value" "[B", Cond.methodLink RJ0 335 yJ0_coder_7d493, Cond.instanceMethod yJ0_coder_7d493, Cond.selects RJ0 yJ0_coder_7d493 yJ0_coder_7d493, Cond.code yJ0_coder_7d493 cJ0_coder_7d493 1 (some .byte), Cond.fieldLink RJ0 38 "java/lang/String" "COMPACT_STRINGS" "Z", Cond.fieldLink RJ0 15 "java/lang/String" "coder" "B", Cond.methodLink RX11 104 yJ0_charAt_5068e, Cond.instanceMethod yJ0_charAt_5068e, Cond.selects RJ0 yJ0_charAt_5068e yJ0_charAt_5068e, Cond.code yJ0_charAt_5068e cJ0_charAt_5068e 2 (some .char), Cond.methodLink RJ0 492 yJ0_isLatin1_aae02, Cond.instanceMethod yJ0_isLatin1_aae02, Cond.selects RJ0 yJ0_isLatin1_aae02 yJ0_isLatin1_aae02, Cond.code yJ0_isLatin1_aae02 cJ0_isLatin1_aae02 1 (some .boolean), Cond.methodLink RJ0 495 yJ1_charAt_3b067, Cond.static yJ1_charAt_3b067, Cond.initialized RJ1, Cond.code yJ1_charAt_3b067 cJ1_charAt_3b067 2 (some .char), Cond.methodLink RJ1 9 yJ0_checkIndex_df160, Cond.static yJ0_checkIndex_df160, Cond.code yJ0_checkIndex_df160 cJ0_checkIndex_df160 2 none, Cond.fieldLink RJ0 1053 "jdk/internal/util/Preconditions" "SIOOBE_FORMATTER" "Ljava/util/function/BiFunction;", Cond.methodLink RJ0 1059 yJ3_checkIndex_8e157]
def wsL_law_r8 : List Cond := [Cond.static yJ3_checkIndex_8e157, Cond.initialized RJ3, Cond.code yJ3_checkIndex_8e157 cJ3_checkIndex_8e157 3 (some .int), Cond.methodLink RJ0 498 yJ2_charAt_3b067, Cond.static yJ2_charAt_3b067, Cond.initialized RJ2, Cond.code yJ2_charAt_3b067 cJ2_charAt_3b067 2 (some .char), Cond.methodLink RJ2 67 yJ2_checkIndex_2214a, Cond.static yJ2_checkIndex_2214a, Cond.code yJ2_checkIndex_2214a cJ2_checkIndex_2214a 2 none, Cond.methodLink RJ2 48 yJ2_length_9d52b, Cond.static yJ2_length_9d52b, Cond.code yJ2_length_9d52b cJ2_length_9d52b 1 (some .int), Cond.methodLink RJ2 414 yJ0_checkIndex_df160, Cond.methodLink RJ2 71 yJ2_getChar_3b067, Cond.static yJ2_getChar_3b067, Cond.code yJ2_getChar_3b067 cJ2_getChar_3b067 2 (some .char), Cond.fieldLink RJ2 44 "java/lang/StringUTF16" "$assertionsDisabled" "Z", Cond.fieldLink RJ2 59 "java/lang/StringUTF16" "HI_BYTE_SHIFT" "I", Cond.fieldLink RJ2 63 "java/lang/StringUTF16" "LO_BYTE_SHIFT" "I", Cond.methodLink RX11 108 yX8_append, Cond.instanceMethod yX8_append, Cond.selects RX8 yX8_append yX8_append, Cond.code yX8_append cX8_append 2 (some .boolean)]
def wsL_law_r9 : List Cond := [Cond.methodLink RX11 112 yX6_readAll, Cond.instanceMethod yX6_readAll, Cond.selects RX6 yX6_readAll yX6_readAll, Cond.code yX6_readAll cX6_readAll 5 (some .int), Cond.methodLink RX6 26 yX7_clear, Cond.instanceMethod yX7_clear, Cond.selects RX7 yX7_clear yX7_clear, Cond.code yX7_clear cX7_clear 2 none, Cond.methodLink RX6 34 yX6_readItem, Cond.instanceMethod yX6_readItem, Cond.selects RX6 yX6_readItem yX6_readItem, Cond.code yX6_readItem cX6_readItem 4 (some .int), Cond.methodLink RX6 38 yX8_at, Cond.instanceMethod yX8_at, Cond.selects RX8 yX8_at yX8_at, Cond.code yX8_at cX8_at 2 (some .char), Cond.methodLink RX6 42 yX6_readGrid, Cond.instanceMethod yX6_readGrid, Cond.selects RX6 yX6_readGrid yX6_readGrid, Cond.code yX6_readGrid cX6_readGrid 5 (some .int), Cond.methodLink RX6 54 yX6_sideOf, Cond.static yX6_sideOf, Cond.code yX6_sideOf cX6_sideOf 1 (some .int), Cond.static yX11_isFrom]
def wsL_law_r10 : List Cond := [Cond.code yX11_isFrom cX11_isFrom 3 (some .boolean), Cond.methodLink RX6 45 yX6_readRow, Cond.instanceMethod yX6_readRow, Cond.selects RX6 yX6_readRow yX6_readRow, Cond.code yX6_readRow cX6_readRow 6 (some .int), Cond.methodLink RX6 48 yX6_readDot, Cond.instanceMethod yX6_readDot, Cond.selects RX6 yX6_readDot yX6_readDot, Cond.code yX6_readDot cX6_readDot 5 (some .int), Cond.methodLink RX6 75 yX7_hasDot, Cond.instanceMethod yX7_hasDot, Cond.selects RX7 yX7_hasDot yX7_hasDot, Cond.code yX7_hasDot cX7_hasDot 4 (some .boolean), Cond.methodLink RX6 79 yX7_addDot, Cond.instanceMethod yX7_addDot, Cond.selects RX7 yX7_addDot yX7_addDot, Cond.code yX7_addDot cX7_addDot 3 none, Cond.methodLink RX6 51 yX6_readMetric, Cond.instanceMethod yX6_readMetric, Cond.selects RX6 yX6_readMetric yX6_readMetric, Cond.code yX6_readMetric cX6_readMetric 6 (some .int), Cond.methodLink RX11 117 yX7_copyFrom, Cond.instanceMethod yX7_copyFrom, Cond.selects RX7 yX7_copyFrom yX7_copyFrom]
def wsL_law_r11 : List Cond := [Cond.code yX7_copyFrom cX7_copyFrom 3 none, Cond.methodLink RL 12 yX12_init, Cond.instanceMethod yX12_init, Cond.code yX12_init cX12_init 2 none, Cond.methodLink RX12 1 objectInit, Cond.fieldLink RX12 7 "EdgeStencilModel" "now" "[I", Cond.fieldLink RX12 13 "EdgeStencilModel" "changes" "[I", Cond.fieldLink RX12 16 "EdgeStencilModel" "ledger" "[I", Cond.fieldLink RX12 19 "EdgeStencilModel" "scale" "I", Cond.fieldLink RX12 23 "EdgeStencilModel" "text" "[I", Cond.fieldLink RX12 26 "EdgeStencilModel" "fresh" "[I", Cond.fieldLink RX12 29 "EdgeStencilModel" "firstRows" "[I", Cond.fieldLink RX12 32 "EdgeStencilModel" "firstDots" "[I", Cond.fieldLink RX12 35 "EdgeStencilModel" "fars" "[I", Cond.fieldLink RX12 38 "EdgeStencilModel" "ranks" "[I", Cond.fieldLink RX12 41 "EdgeStencilModel" "chosen" "[I", Cond.fieldLink RX12 44 "EdgeStencilModel" "wide" "I", Cond.fieldLink RX12 47 "EdgeStencilModel" "high" "I", Cond.methodLink RX12 50 yX12_at, Cond.static yX12_at, Cond.code yX12_at cX12_at 2 (some .int), Cond.methodLink RX12 54 yX12_comesDot, Cond.static yX12_comesDot, Cond.code yX12_comesDot cX12_comesDot 3 none]
def wsL_law_r12 : List Cond := [Cond.methodLink RL 13 yX11_write, Cond.instanceMethod yX11_write, Cond.selects RX11 yX11_write yX11_write, Cond.code yX11_write cX11_write 2 (some .int), Cond.methodLink RL 17 yX12_write, Cond.instanceMethod yX12_write, Cond.selects RX12 yX12_write yX12_write, Cond.code yX12_write cX12_write 2 (some .int), Cond.fieldLink RX12 62 "EdgeStencilModel" "letterMany" "I", Cond.methodLink RX12 58 yX12_in, Cond.static yX12_in, Cond.code yX12_in cX12_in 3 (some .boolean), Cond.methodLink RL 18 yX11_wipe, Cond.instanceMethod yX11_wipe, Cond.selects RX11 yX11_wipe yX11_wipe, Cond.code yX11_wipe cX11_wipe 2 (some .int), Cond.methodLink RL 22 yX12_wipe, Cond.instanceMethod yX12_wipe, Cond.selects RX12 yX12_wipe yX12_wipe, Cond.code yX12_wipe cX12_wipe 2 (some .int), Cond.methodLink RL 23 yX11_fault, Cond.instanceMethod yX11_fault, Cond.selects RX11 yX11_fault yX11_fault, Cond.code yX11_fault cX11_fault 1 (some .int)]
def wsL_law_r13 : List Cond := [Cond.methodLink RL 26 yX12_fault, Cond.instanceMethod yX12_fault, Cond.selects RX12 yX12_fault yX12_fault, Cond.code yX12_fault cX12_fault 1 (some .int), Cond.methodLink RX12 101 yX12_reads, Cond.instanceMethod yX12_reads, Cond.selects RX12 yX12_reads yX12_reads, Cond.code yX12_reads cX12_reads 3 (some .int), Cond.fieldLink RX12 78 "EdgeStencilModel" "newRows" "I", Cond.methodLink RX12 98 yX12_readsItem, Cond.instanceMethod yX12_readsItem, Cond.selects RX12 yX12_readsItem yX12_readsItem, Cond.code yX12_readsItem cX12_readsItem 3 (some .int), Cond.fieldLink RX12 72 "EdgeStencilModel" "newWide" "I", Cond.methodLink RX12 65 yX12_letter, Cond.instanceMethod yX12_letter, Cond.selects RX12 yX12_letter yX12_letter, Cond.code yX12_letter cX12_letter 2 (some .int), Cond.methodLink RX12 85 yX12_readsGrid, Cond.instanceMethod yX12_readsGrid, Cond.selects RX12 yX12_readsGrid yX12_readsGrid, Cond.code yX12_readsGrid cX12_readsGrid 2 (some .boolean), Cond.fieldLink RX12 75 "EdgeStencilModel" "newHigh" "I", Cond.methodLink RX12 69 yX12_signOf]
def wsL_law_r14 : List Cond := [Cond.static yX12_signOf, Cond.code yX12_signOf cX12_signOf 1 (some .int), Cond.methodLink RX12 89 yX12_readsRow, Cond.instanceMethod yX12_readsRow, Cond.selects RX12 yX12_readsRow yX12_readsRow, Cond.code yX12_readsRow cX12_readsRow 4 (some .boolean), Cond.methodLink RX12 92 yX12_readsDot, Cond.instanceMethod yX12_readsDot, Cond.selects RX12 yX12_readsDot yX12_readsDot, Cond.code yX12_readsDot cX12_readsDot 4 (some .boolean), Cond.methodLink RX12 81 yX12_dotAt, Cond.static yX12_dotAt, Cond.code yX12_dotAt cX12_dotAt 4 (some .int), Cond.methodLink RX12 95 yX12_readsMeasure, Cond.instanceMethod yX12_readsMeasure, Cond.selects RX12 yX12_readsMeasure yX12_readsMeasure, Cond.code yX12_readsMeasure cX12_readsMeasure 6 (some .boolean), Cond.methodLink RL 27 yX11_lay, Cond.instanceMethod yX11_lay, Cond.selects RX11 yX11_lay yX11_lay, Cond.code yX11_lay cX11_lay 1 (some .int), Cond.methodLink RX11 133 yX11_lookAt, Cond.instanceMethod yX11_lookAt, Cond.selects RX11 yX11_lookAt yX11_lookAt]
def wsL_law_r15 : List Cond := [Cond.code yX11_lookAt cX11_lookAt 4 none, Cond.methodLink RX11 137 yX11_makeStale, Cond.instanceMethod yX11_makeStale, Cond.selects RX11 yX11_makeStale yX11_makeStale, Cond.code yX11_makeStale cX11_makeStale 1 none, Cond.methodLink RX11 140 yX7_edges, Cond.instanceMethod yX7_edges, Cond.selects RX7 yX7_edges yX7_edges, Cond.code yX7_edges cX7_edges 3 (some .int), Cond.methodLink RX7 41 yJ6_bitCount_0f7a4, Cond.static yJ6_bitCount_0f7a4, Cond.initialized RJ6, Cond.code yJ6_bitCount_0f7a4 cJ6_bitCount_0f7a4 1 (some .int), Cond.constant RJ6 265 (1431655765), Cond.constant RJ6 266 (858993459), Cond.constant RJ6 267 (252645135), Cond.methodLink RL 30 yX12_lay, Cond.instanceMethod yX12_lay, Cond.selects RX12 yX12_lay yX12_lay, Cond.code yX12_lay cX12_lay 2 (some .int), Cond.fieldLink RX12 105 "EdgeStencilModel" "changeMany" "I", Cond.fieldLink RX12 108 "EdgeStencilModel" "quarters" "I", Cond.fieldLink RX12 111 "EdgeStencilModel" "flipped" "I", Cond.methodLink RX12 114 yX12_edges]
def wsL_law_r16 : List Cond := [Cond.instanceMethod yX12_edges, Cond.selects RX12 yX12_edges yX12_edges, Cond.code yX12_edges cX12_edges 3 (some .int), Cond.methodLink RL 31 yX11_edge, Cond.instanceMethod yX11_edge, Cond.selects RX11 yX11_edge yX11_edge, Cond.code yX11_edge cX11_edge 4 (some .int), Cond.methodLink RX11 143 yX7_has, Cond.instanceMethod yX7_has, Cond.selects RX7 yX7_has yX7_has, Cond.code yX7_has cX7_has 3 (some .boolean), Cond.methodLink RX11 147 yX11_isFrom, Cond.methodLink RX11 151 yX7_edgeAt, Cond.instanceMethod yX7_edgeAt, Cond.selects RX7 yX7_edgeAt yX7_edgeAt, Cond.code yX7_edgeAt cX7_edgeAt 3 (some .int), Cond.methodLink RX7 37 yX7_has, Cond.methodLink RX11 155 yX11_startChange, Cond.instanceMethod yX11_startChange, Cond.selects RX11 yX11_startChange yX11_startChange, Cond.code yX11_startChange cX11_startChange 1 none, Cond.methodLink RX11 290 yX3_keep, Cond.instanceMethod yX3_keep, Cond.selects RX3 yX3_keep yX3_keep]
def wsL_law_r17 : List Cond := [Cond.code yX3_keep cX3_keep 3 none, Cond.methodLink RX3 33 Lib.Math.min.name, Cond.static Lib.Math.min.name, Cond.initialized "java/lang/Math", Cond.code Lib.Math.min.name Lib.Math.min.code 2 (some .int), Cond.methodLink RX3 29 yX7_copyFrom, Cond.methodLink RX11 158 yX7_flipEdge, Cond.instanceMethod yX7_flipEdge, Cond.selects RX7 yX7_flipEdge yX7_flipEdge, Cond.code yX7_flipEdge cX7_flipEdge 3 none, Cond.methodLink RL 35 yX12_edge, Cond.instanceMethod yX12_edge, Cond.selects RX12 yX12_edge yX12_edge, Cond.code yX12_edge cX12_edge 4 (some .int), Cond.methodLink RX12 120 yX12_isCell, Cond.instanceMethod yX12_isCell, Cond.selects RX12 yX12_isCell yX12_isCell, Cond.code yX12_isCell cX12_isCell 3 (some .boolean), Cond.methodLink RX12 124 yX12_remembers, Cond.instanceMethod yX12_remembers, Cond.selects RX12 yX12_remembers yX12_remembers, Cond.code yX12_remembers cX12_remembers 2 none, Cond.fieldLink RX12 117 "EdgeStencilModel" "changeAt" "I", Cond.methodLink RL 36 yX11_dot]
def wsL_law_r18 : List Cond := [Cond.instanceMethod yX11_dot, Cond.selects RX11 yX11_dot yX11_dot, Cond.code yX11_dot cX11_dot 3 (some .int), Cond.methodLink RX11 162 yX7_hasDot, Cond.methodLink RX11 165 yX7_addDot, Cond.methodLink RL 40 yX12_dot, Cond.instanceMethod yX12_dot, Cond.selects RX12 yX12_dot yX12_dot, Cond.code yX12_dot cX12_dot 3 (some .int), Cond.methodLink RL 41 yX11_drop, Cond.instanceMethod yX11_drop, Cond.selects RX11 yX11_drop yX11_drop, Cond.code yX11_drop cX11_drop 2 (some .int), Cond.methodLink RX11 168 yX11_isDot, Cond.instanceMethod yX11_isDot, Cond.selects RX11 yX11_isDot yX11_isDot, Cond.code yX11_isDot cX11_isDot 2 (some .boolean), Cond.methodLink RX11 172 yX7_removeDot, Cond.instanceMethod yX7_removeDot, Cond.selects RX7 yX7_removeDot yX7_removeDot, Cond.code yX7_removeDot cX7_removeDot 3 none, Cond.methodLink RL 44 yX12_drop, Cond.instanceMethod yX12_drop, Cond.selects RX12 yX12_drop yX12_drop]
def wsL_law_r19 : List Cond := [Cond.code yX12_drop cX12_drop 3 (some .int), Cond.methodLink RX12 127 yX12_isDot, Cond.instanceMethod yX12_isDot, Cond.selects RX12 yX12_isDot yX12_isDot, Cond.code yX12_isDot cX12_isDot 2 (some .boolean), Cond.methodLink RL 45 yX11_measure, Cond.instanceMethod yX11_measure, Cond.selects RX11 yX11_measure yX11_measure, Cond.code yX11_measure cX11_measure 4 (some .int), Cond.methodLink RL 48 yX12_measure, Cond.instanceMethod yX12_measure, Cond.selects RX12 yX12_measure yX12_measure, Cond.code yX12_measure cX12_measure 4 (some .int), Cond.methodLink RL 49 yX11_undo, Cond.instanceMethod yX11_undo, Cond.selects RX11 yX11_undo yX11_undo, Cond.code yX11_undo cX11_undo 1 (some .int), Cond.methodLink RX11 182 yX3_restoreLatest, Cond.instanceMethod yX3_restoreLatest, Cond.selects RX3 yX3_restoreLatest yX3_restoreLatest, Cond.code yX3_restoreLatest cX3_restoreLatest 3 none, Cond.methodLink RL 52 yX12_undo, Cond.instanceMethod yX12_undo, Cond.selects RX12 yX12_undo yX12_undo]
def wsL_law_r20 : List Cond := [Cond.code yX12_undo cX12_undo 2 (some .int), Cond.methodLink RL 53 yX11_cell, Cond.instanceMethod yX11_cell, Cond.selects RX11 yX11_cell yX11_cell, Cond.code yX11_cell cX11_cell 3 (some .int), Cond.methodLink RL 56 yX12_cell, Cond.instanceMethod yX12_cell, Cond.selects RX12 yX12_cell yX12_cell, Cond.code yX12_cell cX12_cell 3 (some .int), Cond.methodLink RL 57 yX11_far, Cond.instanceMethod yX11_far, Cond.selects RX11 yX11_far yX11_far, Cond.code yX11_far cX11_far 3 (some .int), Cond.methodLink RX11 186 yX11_freshField, Cond.instanceMethod yX11_freshField, Cond.selects RX11 yX11_freshField yX11_freshField, Cond.code yX11_freshField cX11_freshField 1 (some (.object "EdgeStencil$Field")), Cond.methodLink RX11 294 yX1_workOut, Cond.instanceMethod yX1_workOut, Cond.selects RX1 yX1_workOut yX1_workOut, Cond.code yX1_workOut cX1_workOut 7 none, Cond.fieldLink RX1 35 "EdgeStencil$Field" "STRAIGHT_STEP" "[I", Cond.fieldLink RX1 38 "EdgeStencil$Field" "SLANTED_STEP" "[I", Cond.methodLink RX1 22 yX1_start]
def wsL_law_r21 : List Cond := [Cond.instanceMethod yX1_start, Cond.selects RX1 yX1_start yX1_start, Cond.code yX1_start cX1_start 4 none, Cond.methodLink RX1 54 yX7_edgeAt, Cond.methodLink RX1 41 yX1_indexOf, Cond.static yX1_indexOf, Cond.code yX1_indexOf cX1_indexOf 2 (some .int), Cond.methodLink RX1 45 yX1_stepTo, Cond.instanceMethod yX1_stepTo, Cond.selects RX1 yX1_stepTo yX1_stepTo, Cond.code yX1_stepTo cX1_stepTo 8 none, Cond.methodLink RX1 57 Lib.Math.min.name, Cond.methodLink RX11 190 yX1_at, Cond.instanceMethod yX1_at, Cond.selects RX1 yX1_at yX1_at, Cond.code yX1_at cX1_at 3 (some .int), Cond.methodLink RL 60 yX12_far, Cond.instanceMethod yX12_far, Cond.selects RX12 yX12_far yX12_far, Cond.code yX12_far cX12_far 3 (some .int), Cond.methodLink RX12 137 yX12_farOf, Cond.instanceMethod yX12_farOf, Cond.selects RX12 yX12_farOf yX12_farOf, Cond.code yX12_farOf cX12_farOf 5 (some .int)]
def wsL_law_r22 : List Cond := [Cond.methodLink RX12 134 yX12_nearestOf, Cond.instanceMethod yX12_nearestOf, Cond.selects RX12 yX12_nearestOf yX12_nearestOf, Cond.code yX12_nearestOf cX12_nearestOf 7 (some .int), Cond.methodLink RX12 130 yX12_apart, Cond.instanceMethod yX12_apart, Cond.selects RX12 yX12_apart yX12_apart, Cond.code yX12_apart cX12_apart 8 (some .int), Cond.methodLink RL 61 yX11_nearest, Cond.instanceMethod yX11_nearest, Cond.selects RX11 yX11_nearest yX11_nearest, Cond.code yX11_nearest cX11_nearest 8 (some .int), Cond.constant RX11 195 (2147483647), Cond.methodLink RX11 202 yX7_apart, Cond.instanceMethod yX7_apart, Cond.selects RX7 yX7_apart yX7_apart, Cond.code yX7_apart cX7_apart 6 (some .int), Cond.methodLink RX7 47 Lib.Math.abs.name, Cond.static Lib.Math.abs.name, Cond.code Lib.Math.abs.name Lib.Math.abs.code 1 (some .int), Cond.methodLink RX7 52 Lib.Math.max.name, Cond.static Lib.Math.max.name, Cond.code Lib.Math.max.name Lib.Math.max.code 2 (some .int), Cond.methodLink RX7 56 Lib.Math.min.name]
def wsL_law_r23 : List Cond := [Cond.methodLink RL 64 yX12_nearest, Cond.instanceMethod yX12_nearest, Cond.selects RX12 yX12_nearest yX12_nearest, Cond.code yX12_nearest cX12_nearest 4 (some .int), Cond.methodLink RL 65 yX11_rings, Cond.instanceMethod yX11_rings, Cond.selects RX11 yX11_rings yX11_rings, Cond.code yX11_rings cX11_rings 2 (some .int), Cond.methodLink RX11 205 yX1_cellsSoFar, Cond.instanceMethod yX1_cellsSoFar, Cond.selects RX1 yX1_cellsSoFar yX1_cellsSoFar, Cond.code yX1_cellsSoFar cX1_cellsSoFar 5 (some .int), Cond.methodLink RL 68 yX12_rings, Cond.instanceMethod yX12_rings, Cond.selects RX12 yX12_rings yX12_rings, Cond.code yX12_rings cX12_rings 5 (some .int), Cond.methodLink RL 69 yX11_turn, Cond.instanceMethod yX11_turn, Cond.selects RX11 yX11_turn yX11_turn, Cond.code yX11_turn cX11_turn 4 (some .int), Cond.methodLink RL 72 yX12_turn, Cond.instanceMethod yX12_turn, Cond.selects RX12 yX12_turn yX12_turn, Cond.code yX12_turn cX12_turn 4 (some .int)]
def wsL_law_r24 : List Cond := [Cond.methodLink RL 73 yX11_lies, Cond.instanceMethod yX11_lies, Cond.selects RX11 yX11_lies yX11_lies, Cond.code yX11_lies cX11_lies 4 (some .int), Cond.methodLink RX11 209 yX11_lookedAt, Cond.instanceMethod yX11_lookedAt, Cond.selects RX11 yX11_lookedAt yX11_lookedAt, Cond.code yX11_lookedAt cX11_lookedAt 1 (some (.object "EdgeStencil$Shape")), Cond.methodLink RX11 286 yX9_form, Cond.instanceMethod yX9_form, Cond.selects RX9 yX9_form yX9_form, Cond.code yX9_form cX9_form 10 none, Cond.methodLink RX9 43 yJ9_floorDiv_7cf53, Cond.static yJ9_floorDiv_7cf53, Cond.initialized RJ9, Cond.code yJ9_floorDiv_7cf53 cJ9_floorDiv_7cf53 3 (some .int), Cond.methodLink RX9 49 yX9_findBox, Cond.instanceMethod yX9_findBox, Cond.selects RX9 yX9_findBox yX9_findBox, Cond.code yX9_findBox cX9_findBox 2 none, Cond.methodLink RX9 52 Lib.Math.min.name, Cond.methodLink RX9 55 Lib.Math.max.name, Cond.methodLink RL 76 yX12_lies, Cond.instanceMethod yX12_lies]
def wsL_law_r25 : List Cond := [Cond.selects RX12 yX12_lies yX12_lies, Cond.code yX12_lies cX12_lies 3 (some .int), Cond.methodLink RX12 143 yX12_liesX, Cond.instanceMethod yX12_liesX, Cond.selects RX12 yX12_liesX yX12_liesX, Cond.code yX12_liesX cX12_liesX 7 (some .int), Cond.methodLink RX12 140 yX12_halved, Cond.static yX12_halved, Cond.code yX12_halved cX12_halved 2 (some .int), Cond.methodLink RX12 146 yX12_liesY, Cond.instanceMethod yX12_liesY, Cond.selects RX12 yX12_liesY yX12_liesY, Cond.code yX12_liesY cX12_liesY 7 (some .int), Cond.methodLink RL 77 yX11_pose, Cond.instanceMethod yX11_pose, Cond.selects RX11 yX11_pose yX11_pose, Cond.code yX11_pose cX11_pose 4 (some .int), Cond.methodLink RX11 220 yX2_weigh, Cond.instanceMethod yX2_weigh, Cond.selects RX2 yX2_weigh yX2_weigh, Cond.code yX2_weigh cX2_weigh 7 (some .boolean), Cond.methodLink RX2 30 yX9_isInside, Cond.instanceMethod yX9_isInside, Cond.selects RX9 yX9_isInside yX9_isInside]
def wsL_law_r26 : List Cond := [Cond.code yX9_isInside cX9_isInside 5 (some .boolean), Cond.methodLink RX2 49 yX1_indexOf, Cond.methodLink RL 80 yX12_pose, Cond.instanceMethod yX12_pose, Cond.selects RX12 yX12_pose yX12_pose, Cond.code yX12_pose cX12_pose 4 (some .int), Cond.fieldLink RX12 149 "EdgeStencilModel" "illIs" "I", Cond.fieldLink RX12 152 "EdgeStencilModel" "worstIs" "I", Cond.fieldLink RX12 158 "EdgeStencilModel" "worstDot" "I", Cond.fieldLink RX12 155 "EdgeStencilModel" "onEdges" "I", Cond.methodLink RX12 161 yX12_laysFars, Cond.instanceMethod yX12_laysFars, Cond.selects RX12 yX12_laysFars yX12_laysFars, Cond.code yX12_laysFars cX12_laysFars 3 none, Cond.methodLink RX12 164 yX12_looks, Cond.instanceMethod yX12_looks, Cond.selects RX12 yX12_looks yX12_looks, Cond.code yX12_looks cX12_looks 10 (some .boolean), Cond.methodLink RL 81 yX11_fits, Cond.instanceMethod yX11_fits, Cond.selects RX11 yX11_fits yX11_fits, Cond.code yX11_fits cX11_fits 5 (some .int), Cond.methodLink RX11 236 yX9_isInside, Cond.methodLink RL 84 yX12_fits]
def wsL_law_r27 : List Cond := [Cond.instanceMethod yX12_fits, Cond.selects RX12 yX12_fits yX12_fits, Cond.code yX12_fits cX12_fits 3 (some .int), Cond.methodLink RL 85 yX11_bound, Cond.instanceMethod yX11_bound, Cond.selects RX11 yX11_bound yX11_bound, Cond.code yX11_bound cX11_bound 13 (some .int), Cond.methodLink RX11 240 Lib.Math.min.name, Cond.methodLink RX11 246 yX1_leastIn, Cond.instanceMethod yX1_leastIn, Cond.selects RX1 yX1_leastIn yX1_leastIn, Cond.code yX1_leastIn cX1_leastIn 9 (some .int), Cond.methodLink RX1 62 Lib.Math.max.name, Cond.methodLink RL 88 yX12_bound, Cond.instanceMethod yX12_bound, Cond.selects RX12 yX12_bound yX12_bound, Cond.code yX12_bound cX12_bound 12 (some .int), Cond.constant RX12 168 (2147483647), Cond.methodLink RL 89 yX11_tells, Cond.instanceMethod yX11_tells, Cond.selects RX11 yX11_tells yX11_tells, Cond.code yX11_tells cX11_tells 5 (some .int), Cond.methodLink RX11 250 yX10_seek, Cond.instanceMethod yX10_seek]
def wsL_law_r28 : List Cond := [Cond.selects RX10 yX10_seek yX10_seek, Cond.code yX10_seek cX10_seek 9 (some .int), Cond.methodLink RX10 15 yX7_edgeAt, Cond.methodLink RX10 21 yX10_isNear, Cond.static yX10_isNear, Cond.code yX10_isNear cX10_isNear 6 (some .boolean), Cond.methodLink RX10 37 yX7_apart, Cond.methodLink RL 92 yX12_tells, Cond.instanceMethod yX12_tells, Cond.selects RX12 yX12_tells yX12_tells, Cond.code yX12_tells cX12_tells 4 (some .int), Cond.methodLink RX12 173 yX12_toldMany, Cond.instanceMethod yX12_toldMany, Cond.selects RX12 yX12_toldMany yX12_toldMany, Cond.code yX12_toldMany cX12_toldMany 9 (some .int), Cond.methodLink RX12 169 yX12_isTold, Cond.instanceMethod yX12_isTold, Cond.selects RX12 yX12_isTold yX12_isTold, Cond.code yX12_isTold cX12_isTold 10 (some .boolean), Cond.methodLink RL 93 yX11_best, Cond.instanceMethod yX11_best, Cond.selects RX11 yX11_best yX11_best, Cond.code yX11_best cX11_best 4 (some .int), Cond.methodLink RX11 254 yX11_freshRanking]
def wsL_law_r29 : List Cond := [Cond.instanceMethod yX11_freshRanking, Cond.selects RX11 yX11_freshRanking yX11_freshRanking, Cond.code yX11_freshRanking cX11_freshRanking 1 (some (.object "EdgeStencil$Ranking")), Cond.methodLink RX11 297 yX5_seek, Cond.instanceMethod yX5_seek, Cond.selects RX5 yX5_seek yX5_seek, Cond.code yX5_seek cX5_seek 7 none, Cond.constant RX5 51 (2147483647), Cond.methodLink RX5 52 yX4_scaleOf, Cond.static yX4_scaleOf, Cond.initialized RX4, Cond.code yX4_scaleOf cX4_scaleOf 1 (some .int), Cond.methodLink RX5 56 yX4_turnsOf, Cond.static yX4_turnsOf, Cond.code yX4_turnsOf cX4_turnsOf 1 (some .int), Cond.methodLink RX5 59 yX4_flipOf, Cond.static yX4_flipOf, Cond.code yX4_flipOf cX4_flipOf 1 (some .int), Cond.methodLink RX5 62 yX9_form, Cond.methodLink RX5 74 yX2_weigh, Cond.methodLink RX5 78 yX4_of, Cond.static yX4_of, Cond.code yX4_of cX4_of 3 (some .int), Cond.methodLink RX5 82 yX5_enter]
def wsL_law_r30 : List Cond := [Cond.instanceMethod yX5_enter, Cond.selects RX5 yX5_enter yX5_enter, Cond.code yX5_enter cX5_enter 4 none, Cond.methodLink RX5 86 Lib.Math.min.name, Cond.methodLink RX11 264 yX11_partOf, Cond.static yX11_partOf, Cond.code yX11_partOf cX11_partOf 4 (some .int), Cond.methodLink RX11 300 yX4_part, Cond.static yX4_part, Cond.code yX4_part cX4_part 5 (some .int), Cond.methodLink RX4 22 yX4_scaleOf, Cond.methodLink RX4 26 yX4_turnsOf, Cond.methodLink RX4 29 yX4_flipOf, Cond.methodLink RL 96 yX12_best, Cond.instanceMethod yX12_best, Cond.selects RX12 yX12_best yX12_best, Cond.code yX12_best cX12_best 3 (some .int), Cond.methodLink RX12 199 yX12_chosenIs, Cond.instanceMethod yX12_chosenIs, Cond.selects RX12 yX12_chosenIs yX12_chosenIs, Cond.code yX12_chosenIs cX12_chosenIs 4 (some .int), Cond.fieldLink RX12 180 "EdgeStencilModel" "chosenMany" "I", Cond.methodLink RX12 192 yX12_chooses, Cond.instanceMethod yX12_chooses]
def wsL_law_r31 : List Cond := [Cond.selects RX12 yX12_chooses yX12_chooses, Cond.code yX12_chooses cX12_chooses 5 none, Cond.fieldLink RX12 177 "EdgeStencilModel" "rankMany" "I", Cond.methodLink RX12 186 yX12_laysRanks, Cond.instanceMethod yX12_laysRanks, Cond.selects RX12 yX12_laysRanks yX12_laysRanks, Cond.code yX12_laysRanks cX12_laysRanks 6 none, Cond.methodLink RX12 189 yX12_isApart, Cond.instanceMethod yX12_isApart, Cond.selects RX12 yX12_isApart yX12_isApart, Cond.code yX12_isApart cX12_isApart 7 (some .boolean), Cond.methodLink RX12 183 yX12_placeOf, Cond.static yX12_placeOf, Cond.code yX12_placeOf cX12_placeOf 1 (some .int), Cond.methodLink RX12 196 yX12_partOf, Cond.static yX12_partOf, Cond.code yX12_partOf cX12_partOf 4 (some .int), Cond.methodLink RL 97 yX11_spread, Cond.instanceMethod yX11_spread, Cond.selects RX11 yX11_spread yX11_spread, Cond.code yX11_spread cX11_spread 5 (some .int), Cond.methodLink RX11 268 yX5_chooseApart, Cond.instanceMethod yX5_chooseApart, Cond.selects RX5 yX5_chooseApart yX5_chooseApart]
def wsL_law_r32 : List Cond := [Cond.code yX5_chooseApart cX5_chooseApart 4 none, Cond.methodLink RX5 92 yX5_firstOpen, Cond.instanceMethod yX5_firstOpen, Cond.selects RX5 yX5_firstOpen yX5_firstOpen, Cond.code yX5_firstOpen cX5_firstOpen 3 (some .int), Cond.methodLink RX5 96 yX4_part, Cond.methodLink RX5 99 yX5_closeAround, Cond.instanceMethod yX5_closeAround, Cond.selects RX5 yX5_closeAround yX5_closeAround, Cond.code yX5_closeAround cX5_closeAround 7 none, Cond.methodLink RX5 103 Lib.Math.abs.name, Cond.methodLink RL 100 yX12_spread, Cond.instanceMethod yX12_spread, Cond.selects RX12 yX12_spread yX12_spread, Cond.code yX12_spread cX12_spread 4 (some .int), Cond.methodLink RL 101 yX11_take, Cond.instanceMethod yX11_take, Cond.selects RX11 yX11_take yX11_take, Cond.code yX11_take cX11_take 3 (some .int), Cond.methodLink RX11 277 yX11_takeFirst, Cond.instanceMethod yX11_takeFirst, Cond.selects RX11 yX11_takeFirst yX11_takeFirst, Cond.code yX11_takeFirst cX11_takeFirst 6 (some .int), Cond.methodLink RX11 308 yX7_clearEdges]
def wsL_law_r33 : List Cond := [Cond.instanceMethod yX7_clearEdges, Cond.selects RX7 yX7_clearEdges yX7_clearEdges, Cond.code yX7_clearEdges cX7_clearEdges 3 none, Cond.methodLink RX11 312 yX0_add, Cond.instanceMethod yX0_add, Cond.selects RX0 yX0_add yX0_add, Cond.code yX0_add cX0_add 3 none, Cond.methodLink RL 104 yX12_take, Cond.instanceMethod yX12_take, Cond.selects RX12 yX12_take yX12_take, Cond.code yX12_take cX12_take 3 (some .int), Cond.methodLink RX12 203 yX12_isTaking, Cond.static yX12_isTaking, Cond.code yX12_isTaking cX12_isTaking 2 (some .boolean), Cond.methodLink RX12 206 yX12_takeOne, Cond.instanceMethod yX12_takeOne, Cond.selects RX12 yX12_takeOne yX12_takeOne, Cond.code yX12_takeOne cX12_takeOne 11 (some .int), Cond.methodLink RL 105 yX11_takes, Cond.instanceMethod yX11_takes, Cond.selects RX11 yX11_takes yX11_takes, Cond.code yX11_takes cX11_takes 5 (some .int), Cond.methodLink RL 108 yX12_takes, Cond.instanceMethod yX12_takes]
def wsL_law_r34 : List Cond := [Cond.selects RX12 yX12_takes yX12_takes, Cond.code yX12_takes cX12_takes 4 (some .int), Cond.methodLink RL 109 yX11_ledger, Cond.instanceMethod yX11_ledger, Cond.selects RX11 yX11_ledger yX11_ledger, Cond.code yX11_ledger cX11_ledger 3 (some .int), Cond.methodLink RL 112 yX12_ledger, Cond.instanceMethod yX12_ledger, Cond.selects RX12 yX12_ledger yX12_ledger, Cond.code yX12_ledger cX12_ledger 3 (some .int), Cond.methodLink RL 113 yX11_count, Cond.instanceMethod yX11_count, Cond.selects RX11 yX11_count yX11_count, Cond.code yX11_count cX11_count 2 (some .int), Cond.methodLink RL 116 yX12_count, Cond.instanceMethod yX12_count, Cond.selects RX12 yX12_count yX12_count, Cond.code yX12_count cX12_count 2 (some .int)]
def wsL_law : List Cond := (wsL_law_r1 ++ (wsL_law_r2 ++ (wsL_law_r3 ++ (wsL_law_r4 ++ (wsL_law_r5 ++ (wsL_law_r6 ++ (wsL_law_r7 ++ (wsL_law_r8 ++ (wsL_law_r9 ++ (wsL_law_r10 ++ (wsL_law_r11 ++ (wsL_law_r12 ++ (wsL_law_r13 ++ (wsL_law_r14 ++ (wsL_law_r15 ++ (wsL_law_r16 ++ (wsL_law_r17 ++ (wsL_law_r18 ++ (wsL_law_r19 ++ (wsL_law_r20 ++ (wsL_law_r21 ++ (wsL_law_r22 ++ (wsL_law_r23 ++ (wsL_law_r24 ++ (wsL_law_r25 ++ (wsL_law_r26 ++ (wsL_law_r27 ++ (wsL_law_r28 ++ (wsL_law_r29 ++ (wsL_law_r30 ++ (wsL_law_r31 ++ (wsL_law_r32 ++ (wsL_law_r33 ++ wsL_law_r34))))))))))))))))))))))))))))))))) ++ wsX110 ++ wsX120 ++ wsX80 ++ wsX60 ++ wsX70 ++ wsX30 ++ wsX00 ++ wsX10 ++ wsX50 ++ wsX90 ++ wsX20 ++ wsX100 ++ ([] : List Cond)
theorem inlX0 : ∀ w ∈ wsX00, w ∈ wsL_law := fun _ h => List.mem_append_left _ (List.mem_append_left _ (List.mem_append_left _ (List.mem_append_left _ (List.mem_append_left _ (List.mem_append_left _ (List.mem_append_right _ h))))))
theorem inlX1 : ∀ w ∈ wsX10, w ∈ wsL_law := fun _ h => List.mem_append_left _ (List.mem_append_left _ (List.mem_append_left _ (List.mem_append_left _ (List.mem_append_left _ (List.mem_append_right _ h)))))
theorem inlX2 : ∀ w ∈ wsX20, w ∈ wsL_law := fun _ h => List.mem_append_left _ (List.mem_append_left _ (List.mem_append_right _ h))
theorem inlX3 : ∀ w ∈ wsX30, w ∈ wsL_law := fun _ h => List.mem_append_left _ (List.mem_append_left _ (List.mem_append_left _ (List.mem_append_left _ (List.mem_append_left _ (List.mem_append_left _ (List.mem_append_left _ (List.mem_append_right _ h)))))))
theorem inlX5 : ∀ w ∈ wsX50, w ∈ wsL_law := fun _ h => List.mem_append_left _ (List.mem_append_left _ (List.mem_append_left _ (List.mem_append_left _ (List.mem_append_right _ h))))
theorem inlX6 : ∀ w ∈ wsX60, w ∈ wsL_law := fun _ h => List.mem_append_left _ (List.mem_append_left _ (List.mem_append_left _ (List.mem_append_left _ (List.mem_append_left _ (List.mem_append_left _ (List.mem_append_left _ (List.mem_append_left _ (List.mem_append_left _ (List.mem_append_right _ h)))))))))
theorem inlX7 : ∀ w ∈ wsX70, w ∈ wsL_law := fun _ h => List.mem_append_left _ (List.mem_append_left _ (List.mem_append_left _ (List.mem_append_left _ (List.mem_append_left _ (List.mem_append_left _ (List.mem_append_left _ (List.mem_append_left _ (List.mem_append_right _ h))))))))
theorem inlX8 : ∀ w ∈ wsX80, w ∈ wsL_law := fun _ h => List.mem_append_left _ (List.mem_append_left _ (List.mem_append_left _ (List.mem_append_left _ (List.mem_append_left _ (List.mem_append_left _ (List.mem_append_left _ (List.mem_append_left _ (List.mem_append_left _ (List.mem_append_left _ (List.mem_append_right _ h))))))))))
theorem inlX9 : ∀ w ∈ wsX90, w ∈ wsL_law := fun _ h => List.mem_append_left _ (List.mem_append_left _ (List.mem_append_left _ (List.mem_append_right _ h)))
theorem inlX10 : ∀ w ∈ wsX100, w ∈ wsL_law := fun _ h => List.mem_append_left _ (List.mem_append_right _ h)
theorem inlX11 : ∀ w ∈ wsX110, w ∈ wsL_law := fun _ h => List.mem_append_left _ (List.mem_append_left _ (List.mem_append_left _ (List.mem_append_left _ (List.mem_append_left _ (List.mem_append_left _ (List.mem_append_left _ (List.mem_append_left _ (List.mem_append_left _ (List.mem_append_left _ (List.mem_append_left _ (List.mem_append_left _ (List.mem_append_right _ h))))))))))))
theorem inlX12 : ∀ w ∈ wsX120, w ∈ wsL_law := fun _ h => List.mem_append_left _ (List.mem_append_left _ (List.mem_append_left _ (List.mem_append_left _ (List.mem_append_left _ (List.mem_append_left _ (List.mem_append_left _ (List.mem_append_left _ (List.mem_append_left _ (List.mem_append_left _ (List.mem_append_left _ (List.mem_append_right _ h)))))))))))
end
section
/-! ===== the nest mates' links, as lists; the words by their places ===== -/
def nwF : List (String × Nat × String × String × String × String) := [(RX11, 121, RX8, "length", "I", RX11), (RX6, 29, RX8, "length", "I", RX11), (RX5, 71, RX7, "width", "I", RX11), (RX1, 49, RX7, "width", "I", RX11), (RX6, 62, RX7, "width", "I", RX11), (RX11, 199, RX7, "width", "I", RX11), (RX5, 66, RX7, "height", "I", RX11), (RX1, 50, RX7, "height", "I", RX11), (RX6, 65, RX7, "height", "I", RX11), (RX11, 196, RX7, "height", "I", RX11), (RX6, 68, RX7, "rows", "[I", RX11), (RX9, 37, RX7, "dotX", "[I", RX11), (RX9, 40, RX7, "dotY", "[I", RX11), (RX9, 34, RX7, "dots", "I", RX11), (RX11, 126, RX7, "dots", "I", RX11), (RX6, 72, RX7, "dots", "I", RX11), (RX1, 26, RX7, "metric", "I", RX11), (RX6, 83, RX7, "metric", "I", RX11), (RX11, 176, RX7, "metric", "I", RX11), (RX1, 51, RX7, "cap", "I", RX11), (RX6, 86, RX7, "cap", "I", RX11), (RX11, 179, RX7, "cap", "I", RX11), (RX11, 116, RX6, "scene", "LEdgeStencil$Scene;", RX11), (RX11, 123, RX6, "gridTold", "Z", RX11), (RX11, 129, RX3, "size", "I", RX11), (RX11, 283, RX0, "ranks", "[I", RX11), (RX11, 280, RX0, "gone", "[I", RX11), (RX3, 39, RX0, "size", "I", RX11), (RX11, 132, RX0, "size", "I", RX11), (RX2, 39, RX1, "fars", "[I", RX11), (RX2, 22, RX1, "width", "I", RX11), (RX2, 27, RX1, "height", "I", RX11), (RX2, 43, RX9, "dx", "[I", RX11), (RX10, 31, RX9, "dx", "[I", RX11), (RX11, 213, RX9, "dx", "[I", RX11), (RX2, 46, RX9, "dy", "[I", RX11), (RX10, 34, RX9, "dy", "[I", RX11), (RX11, 217, RX9, "dy", "[I", RX11), (RX2, 36, RX9, "dots", "I", RX11), (RX10, 25, RX9, "dots", "I", RX11), (RX11, 245, RX9, "dots", "I", RX11), (RX4, 13, RX2, "ill", "I", RX11), (RX11, 224, RX2, "ill", "I", RX11), (RX4, 19, RX2, "worst", "I", RX11), (RX11, 227, RX2, "worst", "I", RX11), (RX11, 230, RX2, "worstDot", "I", RX11), (RX11, 233, RX2, "onEdges", "I", RX11), (RX11, 258, RX5, "first", "[I", RX11), (RX11, 261, RX5, "found", "I", RX11), (RX11, 271, RX5, "chosen", "[I", RX11), (RX11, 274, RX5, "chosenCount", "I", RX11), (RX11, 305, RX10, "rows", "[I", RX11)]
def nwM : List (String × Nat × MethodName × String) := [(RX11, 9, yX8_init, RX11), (RX11, 18, yX6_init, RX11), (RX6, 11, yX7_init, RX11), (RX11, 25, yX7_init, RX11), (RX3, 28, yX7_init, RX11), (RX11, 39, yX0_init, RX11), (RX11, 46, yX1_init, RX11), (RX11, 53, yX5_init, RX11), (RX5, 11, yX9_init, RX11), (RX5, 20, yX2_init, RX11), (RX11, 60, yX9_init, RX11), (RX11, 67, yX2_init, RX11), (RX11, 74, yX10_init, RX11), (RX6, 58, yX11_isFrom, RX11), (RX1, 31, yX11_isFrom, RX11)]
theorem in_r1 {w : Cond} (h : w ∈ wsL_law_r1) : w ∈ wsL_law := List.mem_append_left _ (List.mem_append_left _ (List.mem_append_left _ (List.mem_append_left _ (List.mem_append_left _ (List.mem_append_left _ (List.mem_append_left _ (List.mem_append_left _ (List.mem_append_left _ (List.mem_append_left _ (List.mem_append_left _ (List.mem_append_left _ (List.mem_append_left _ (List.mem_append_left _ h)))))))))))))
theorem in_r2 {w : Cond} (h : w ∈ wsL_law_r2) : w ∈ wsL_law := List.mem_append_left _ (List.mem_append_left _ (List.mem_append_left _ (List.mem_append_left _ (List.mem_append_left _ (List.mem_append_left _ (List.mem_append_left _ (List.mem_append_left _ (List.mem_append_left _ (List.mem_append_left _ (List.mem_append_left _ (List.mem_append_left _ (List.mem_append_left _ (List.mem_append_right _ (List.mem_append_left _ h))))))))))))))
theorem in_r3 {w : Cond} (h : w ∈ wsL_law_r3) : w ∈ wsL_law := List.mem_append_left _ (List.mem_append_left _ (List.mem_append_left _ (List.mem_append_left _ (List.mem_append_left _ (List.mem_append_left _ (List.mem_append_left _ (List.mem_append_left _ (List.mem_append_left _ (List.mem_append_left _ (List.mem_append_left _ (List.mem_append_left _ (List.mem_append_left _ (List.mem_append_right _ (List.mem_append_right _ (List.mem_append_left _ h)))))))))))))))
theorem in_r4 {w : Cond} (h : w ∈ wsL_law_r4) : w ∈ wsL_law := List.mem_append_left _ (List.mem_append_left _ (List.mem_append_left _ (List.mem_append_left _ (List.mem_append_left _ (List.mem_append_left _ (List.mem_append_left _ (List.mem_append_left _ (List.mem_append_left _ (List.mem_append_left _ (List.mem_append_left _ (List.mem_append_left _ (List.mem_append_left _ (List.mem_append_right _ (List.mem_append_right _ (List.mem_append_right _ (List.mem_append_left _ h))))))))))))))))
theorem in_r5 {w : Cond} (h : w ∈ wsL_law_r5) : w ∈ wsL_law := List.mem_append_left _ (List.mem_append_left _ (List.mem_append_left _ (List.mem_append_left _ (List.mem_append_left _ (List.mem_append_left _ (List.mem_append_left _ (List.mem_append_left _ (List.mem_append_left _ (List.mem_append_left _ (List.mem_append_left _ (List.mem_append_left _ (List.mem_append_left _ (List.mem_append_right _ (List.mem_append_right _ (List.mem_append_right _ (List.mem_append_right _ (List.mem_append_left _ h)))))))))))))))))
theorem in_r6 {w : Cond} (h : w ∈ wsL_law_r6) : w ∈ wsL_law := List.mem_append_left _ (List.mem_append_left _ (List.mem_append_left _ (List.mem_append_left _ (List.mem_append_left _ (List.mem_append_left _ (List.mem_append_left _ (List.mem_append_left _ (List.mem_append_left _ (List.mem_append_left _ (List.mem_append_left _ (List.mem_append_left _ (List.mem_append_left _ (List.mem_append_right _ (List.mem_append_right _ (List.mem_append_right _ (List.mem_append_right _ (List.mem_append_right _ (List.mem_append_left _ h))))))))))))))))))
theorem in_r7 {w : Cond} (h : w ∈ wsL_law_r7) : w ∈ wsL_law := List.mem_append_left _ (List.mem_append_left _ (List.mem_append_left _ (List.mem_append_left _ (List.mem_append_left _ (List.mem_append_left _ (List.mem_append_left _ (List.mem_append_left _ (List.mem_append_left _ (List.mem_append_left _ (List.mem_append_left _ (List.mem_append_left _ (List.mem_append_left _ (List.mem_append_right _ (List.mem_append_right _ (List.mem_append_right _ (List.mem_append_right _ (List.mem_append_right _ (List.mem_append_right _ (List.mem_append_left _ h)))))))))))))))))))
theorem in_r8 {w : Cond} (h : w ∈ wsL_law_r8) : w ∈ wsL_law := List.mem_append_left _ (List.mem_append_left _ (List.mem_append_left _ (List.mem_append_left _ (List.mem_append_left _ (List.mem_append_left _ (List.mem_append_left _ (List.mem_append_left _ (List.mem_append_left _ (List.mem_append_left _ (List.mem_append_left _ (List.mem_append_left _ (List.mem_append_left _ (List.mem_append_right _ (List.mem_append_right _ (List.mem_append_right _ (List.mem_append_right _ (List.mem_append_right _ (List.mem_append_right _ (List.mem_append_right _ (List.mem_append_left _ h))))))))))))))))))))
theorem in_r9 {w : Cond} (h : w ∈ wsL_law_r9) : w ∈ wsL_law := List.mem_append_left _ (List.mem_append_left _ (List.mem_append_left _ (List.mem_append_left _ (List.mem_append_left _ (List.mem_append_left _ (List.mem_append_left _ (List.mem_append_left _ (List.mem_append_left _ (List.mem_append_left _ (List.mem_append_left _ (List.mem_append_left _ (List.mem_append_left _ (List.mem_append_right _ (List.mem_append_right _ (List.mem_append_right _ (List.mem_append_right _ (List.mem_append_right _ (List.mem_append_right _ (List.mem_append_right _ (List.mem_append_right _ (List.mem_append_left _ h)))))))))))))))))))))
theorem in_r10 {w : Cond} (h : w ∈ wsL_law_r10) : w ∈ wsL_law := List.mem_append_left _ (List.mem_append_left _ (List.mem_append_left _ (List.mem_append_left _ (List.mem_append_left _ (List.mem_append_left _ (List.mem_append_left _ (List.mem_append_left _ (List.mem_append_left _ (List.mem_append_left _ (List.mem_append_left _ (List.mem_append_left _ (List.mem_append_left _ (List.mem_append_right _ (List.mem_append_right _ (List.mem_append_right _ (List.mem_append_right _ (List.mem_append_right _ (List.mem_append_right _ (List.mem_append_right _ (List.mem_append_right _ (List.mem_append_right _ (List.mem_append_left _ h))))))))))))))))))))))
theorem in_r11 {w : Cond} (h : w ∈ wsL_law_r11) : w ∈ wsL_law := List.mem_append_left _ (List.mem_append_left _ (List.mem_append_left _ (List.mem_append_left _ (List.mem_append_left _ (List.mem_append_left _ (List.mem_append_left _ (List.mem_append_left _ (List.mem_append_left _ (List.mem_append_left _ (List.mem_append_left _ (List.mem_append_left _ (List.mem_append_left _ (List.mem_append_right _ (List.mem_append_right _ (List.mem_append_right _ (List.mem_append_right _ (List.mem_append_right _ (List.mem_append_right _ (List.mem_append_right _ (List.mem_append_right _ (List.mem_append_right _ (List.mem_append_right _ (List.mem_append_left _ h)))))))))))))))))))))))
theorem in_r12 {w : Cond} (h : w ∈ wsL_law_r12) : w ∈ wsL_law := List.mem_append_left _ (List.mem_append_left _ (List.mem_append_left _ (List.mem_append_left _ (List.mem_append_left _ (List.mem_append_left _ (List.mem_append_left _ (List.mem_append_left _ (List.mem_append_left _ (List.mem_append_left _ (List.mem_append_left _ (List.mem_append_left _ (List.mem_append_left _ (List.mem_append_right _ (List.mem_append_right _ (List.mem_append_right _ (List.mem_append_right _ (List.mem_append_right _ (List.mem_append_right _ (List.mem_append_right _ (List.mem_append_right _ (List.mem_append_right _ (List.mem_append_right _ (List.mem_append_right _ (List.mem_append_left _ h))))))))))))))))))))))))
theorem in_r13 {w : Cond} (h : w ∈ wsL_law_r13) : w ∈ wsL_law := List.mem_append_left _ (List.mem_append_left _ (List.mem_append_left _ (List.mem_append_left _ (List.mem_append_left _ (List.mem_append_left _ (List.mem_append_left _ (List.mem_append_left _ (List.mem_append_left _ (List.mem_append_left _ (List.mem_append_left _ (List.mem_append_left _ (List.mem_append_left _ (List.mem_append_right _ (List.mem_append_right _ (List.mem_append_right _ (List.mem_append_right _ (List.mem_append_right _ (List.mem_append_right _ (List.mem_append_right _ (List.mem_append_right _ (List.mem_append_right _ (List.mem_append_right _ (List.mem_append_right _ (List.mem_append_right _ (List.mem_append_left _ h)))))))))))))))))))))))))
theorem in_r14 {w : Cond} (h : w ∈ wsL_law_r14) : w ∈ wsL_law := List.mem_append_left _ (List.mem_append_left _ (List.mem_append_left _ (List.mem_append_left _ (List.mem_append_left _ (List.mem_append_left _ (List.mem_append_left _ (List.mem_append_left _ (List.mem_append_left _ (List.mem_append_left _ (List.mem_append_left _ (List.mem_append_left _ (List.mem_append_left _ (List.mem_append_right _ (List.mem_append_right _ (List.mem_append_right _ (List.mem_append_right _ (List.mem_append_right _ (List.mem_append_right _ (List.mem_append_right _ (List.mem_append_right _ (List.mem_append_right _ (List.mem_append_right _ (List.mem_append_right _ (List.mem_append_right _ (List.mem_append_right _ (List.mem_append_left _ h))))))))))))))))))))))))))
theorem in_r15 {w : Cond} (h : w ∈ wsL_law_r15) : w ∈ wsL_law := List.mem_append_left _ (List.mem_append_left _ (List.mem_append_left _ (List.mem_append_left _ (List.mem_append_left _ (List.mem_append_left _ (List.mem_append_left _ (List.mem_append_left _ (List.mem_append_left _ (List.mem_append_left _ (List.mem_append_left _ (List.mem_append_left _ (List.mem_append_left _ (List.mem_append_right _ (List.mem_append_right _ (List.mem_append_right _ (List.mem_append_right _ (List.mem_append_right _ (List.mem_append_right _ (List.mem_append_right _ (List.mem_append_right _ (List.mem_append_right _ (List.mem_append_right _ (List.mem_append_right _ (List.mem_append_right _ (List.mem_append_right _ (List.mem_append_right _ (List.mem_append_left _ h)))))))))))))))))))))))))))
theorem in_r16 {w : Cond} (h : w ∈ wsL_law_r16) : w ∈ wsL_law := List.mem_append_left _ (List.mem_append_left _ (List.mem_append_left _ (List.mem_append_left _ (List.mem_append_left _ (List.mem_append_left _ (List.mem_append_left _ (List.mem_append_left _ (List.mem_append_left _ (List.mem_append_left _ (List.mem_append_left _ (List.mem_append_left _ (List.mem_append_left _ (List.mem_append_right _ (List.mem_append_right _ (List.mem_append_right _ (List.mem_append_right _ (List.mem_append_right _ (List.mem_append_right _ (List.mem_append_right _ (List.mem_append_right _ (List.mem_append_right _ (List.mem_append_right _ (List.mem_append_right _ (List.mem_append_right _ (List.mem_append_right _ (List.mem_append_right _ (List.mem_append_right _ (List.mem_append_left _ h))))))))))))))))))))))))))))
theorem in_r17 {w : Cond} (h : w ∈ wsL_law_r17) : w ∈ wsL_law := List.mem_append_left _ (List.mem_append_left _ (List.mem_append_left _ (List.mem_append_left _ (List.mem_append_left _ (List.mem_append_left _ (List.mem_append_left _ (List.mem_append_left _ (List.mem_append_left _ (List.mem_append_left _ (List.mem_append_left _ (List.mem_append_left _ (List.mem_append_left _ (List.mem_append_right _ (List.mem_append_right _ (List.mem_append_right _ (List.mem_append_right _ (List.mem_append_right _ (List.mem_append_right _ (List.mem_append_right _ (List.mem_append_right _ (List.mem_append_right _ (List.mem_append_right _ (List.mem_append_right _ (List.mem_append_right _ (List.mem_append_right _ (List.mem_append_right _ (List.mem_append_right _ (List.mem_append_right _ (List.mem_append_left _ h)))))))))))))))))))))))))))))
theorem in_r18 {w : Cond} (h : w ∈ wsL_law_r18) : w ∈ wsL_law := List.mem_append_left _ (List.mem_append_left _ (List.mem_append_left _ (List.mem_append_left _ (List.mem_append_left _ (List.mem_append_left _ (List.mem_append_left _ (List.mem_append_left _ (List.mem_append_left _ (List.mem_append_left _ (List.mem_append_left _ (List.mem_append_left _ (List.mem_append_left _ (List.mem_append_right _ (List.mem_append_right _ (List.mem_append_right _ (List.mem_append_right _ (List.mem_append_right _ (List.mem_append_right _ (List.mem_append_right _ (List.mem_append_right _ (List.mem_append_right _ (List.mem_append_right _ (List.mem_append_right _ (List.mem_append_right _ (List.mem_append_right _ (List.mem_append_right _ (List.mem_append_right _ (List.mem_append_right _ (List.mem_append_right _ (List.mem_append_left _ h))))))))))))))))))))))))))))))
theorem in_r19 {w : Cond} (h : w ∈ wsL_law_r19) : w ∈ wsL_law := List.mem_append_left _ (List.mem_append_left _ (List.mem_append_left _ (List.mem_append_left _ (List.mem_append_left _ (List.mem_append_left _ (List.mem_append_left _ (List.mem_append_left _ (List.mem_append_left _ (List.mem_append_left _ (List.mem_append_left _ (List.mem_append_left _ (List.mem_append_left _ (List.mem_append_right _ (List.mem_append_right _ (List.mem_append_right _ (List.mem_append_right _ (List.mem_append_right _ (List.mem_append_right _ (List.mem_append_right _ (List.mem_append_right _ (List.mem_append_right _ (List.mem_append_right _ (List.mem_append_right _ (List.mem_append_right _ (List.mem_append_right _ (List.mem_append_right _ (List.mem_append_right _ (List.mem_append_right _ (List.mem_append_right _ (List.mem_append_right _ (List.mem_append_left _ h)))))))))))))))))))))))))))))))
theorem in_r20 {w : Cond} (h : w ∈ wsL_law_r20) : w ∈ wsL_law := List.mem_append_left _ (List.mem_append_left _ (List.mem_append_left _ (List.mem_append_left _ (List.mem_append_left _ (List.mem_append_left _ (List.mem_append_left _ (List.mem_append_left _ (List.mem_append_left _ (List.mem_append_left _ (List.mem_append_left _ (List.mem_append_left _ (List.mem_append_left _ (List.mem_append_right _ (List.mem_append_right _ (List.mem_append_right _ (List.mem_append_right _ (List.mem_append_right _ (List.mem_append_right _ (List.mem_append_right _ (List.mem_append_right _ (List.mem_append_right _ (List.mem_append_right _ (List.mem_append_right _ (List.mem_append_right _ (List.mem_append_right _ (List.mem_append_right _ (List.mem_append_right _ (List.mem_append_right _ (List.mem_append_right _ (List.mem_append_right _ (List.mem_append_right _ (List.mem_append_left _ h))))))))))))))))))))))))))))))))
theorem in_r21 {w : Cond} (h : w ∈ wsL_law_r21) : w ∈ wsL_law := List.mem_append_left _ (List.mem_append_left _ (List.mem_append_left _ (List.mem_append_left _ (List.mem_append_left _ (List.mem_append_left _ (List.mem_append_left _ (List.mem_append_left _ (List.mem_append_left _ (List.mem_append_left _ (List.mem_append_left _ (List.mem_append_left _ (List.mem_append_left _ (List.mem_append_right _ (List.mem_append_right _ (List.mem_append_right _ (List.mem_append_right _ (List.mem_append_right _ (List.mem_append_right _ (List.mem_append_right _ (List.mem_append_right _ (List.mem_append_right _ (List.mem_append_right _ (List.mem_append_right _ (List.mem_append_right _ (List.mem_append_right _ (List.mem_append_right _ (List.mem_append_right _ (List.mem_append_right _ (List.mem_append_right _ (List.mem_append_right _ (List.mem_append_right _ (List.mem_append_right _ (List.mem_append_left _ h)))))))))))))))))))))))))))))))))
theorem in_r22 {w : Cond} (h : w ∈ wsL_law_r22) : w ∈ wsL_law := List.mem_append_left _ (List.mem_append_left _ (List.mem_append_left _ (List.mem_append_left _ (List.mem_append_left _ (List.mem_append_left _ (List.mem_append_left _ (List.mem_append_left _ (List.mem_append_left _ (List.mem_append_left _ (List.mem_append_left _ (List.mem_append_left _ (List.mem_append_left _ (List.mem_append_right _ (List.mem_append_right _ (List.mem_append_right _ (List.mem_append_right _ (List.mem_append_right _ (List.mem_append_right _ (List.mem_append_right _ (List.mem_append_right _ (List.mem_append_right _ (List.mem_append_right _ (List.mem_append_right _ (List.mem_append_right _ (List.mem_append_right _ (List.mem_append_right _ (List.mem_append_right _ (List.mem_append_right _ (List.mem_append_right _ (List.mem_append_right _ (List.mem_append_right _ (List.mem_append_right _ (List.mem_append_right _ (List.mem_append_left _ h))))))))))))))))))))))))))))))))))
theorem in_r23 {w : Cond} (h : w ∈ wsL_law_r23) : w ∈ wsL_law := List.mem_append_left _ (List.mem_append_left _ (List.mem_append_left _ (List.mem_append_left _ (List.mem_append_left _ (List.mem_append_left _ (List.mem_append_left _ (List.mem_append_left _ (List.mem_append_left _ (List.mem_append_left _ (List.mem_append_left _ (List.mem_append_left _ (List.mem_append_left _ (List.mem_append_right _ (List.mem_append_right _ (List.mem_append_right _ (List.mem_append_right _ (List.mem_append_right _ (List.mem_append_right _ (List.mem_append_right _ (List.mem_append_right _ (List.mem_append_right _ (List.mem_append_right _ (List.mem_append_right _ (List.mem_append_right _ (List.mem_append_right _ (List.mem_append_right _ (List.mem_append_right _ (List.mem_append_right _ (List.mem_append_right _ (List.mem_append_right _ (List.mem_append_right _ (List.mem_append_right _ (List.mem_append_right _ (List.mem_append_right _ (List.mem_append_left _ h)))))))))))))))))))))))))))))))))))
theorem in_r24 {w : Cond} (h : w ∈ wsL_law_r24) : w ∈ wsL_law := List.mem_append_left _ (List.mem_append_left _ (List.mem_append_left _ (List.mem_append_left _ (List.mem_append_left _ (List.mem_append_left _ (List.mem_append_left _ (List.mem_append_left _ (List.mem_append_left _ (List.mem_append_left _ (List.mem_append_left _ (List.mem_append_left _ (List.mem_append_left _ (List.mem_append_right _ (List.mem_append_right _ (List.mem_append_right _ (List.mem_append_right _ (List.mem_append_right _ (List.mem_append_right _ (List.mem_append_right _ (List.mem_append_right _ (List.mem_append_right _ (List.mem_append_right _ (List.mem_append_right _ (List.mem_append_right _ (List.mem_append_right _ (List.mem_append_right _ (List.mem_append_right _ (List.mem_append_right _ (List.mem_append_right _ (List.mem_append_right _ (List.mem_append_right _ (List.mem_append_right _ (List.mem_append_right _ (List.mem_append_right _ (List.mem_append_right _ (List.mem_append_left _ h))))))))))))))))))))))))))))))))))))
theorem in_r25 {w : Cond} (h : w ∈ wsL_law_r25) : w ∈ wsL_law := List.mem_append_left _ (List.mem_append_left _ (List.mem_append_left _ (List.mem_append_left _ (List.mem_append_left _ (List.mem_append_left _ (List.mem_append_left _ (List.mem_append_left _ (List.mem_append_left _ (List.mem_append_left _ (List.mem_append_left _ (List.mem_append_left _ (List.mem_append_left _ (List.mem_append_right _ (List.mem_append_right _ (List.mem_append_right _ (List.mem_append_right _ (List.mem_append_right _ (List.mem_append_right _ (List.mem_append_right _ (List.mem_append_right _ (List.mem_append_right _ (List.mem_append_right _ (List.mem_append_right _ (List.mem_append_right _ (List.mem_append_right _ (List.mem_append_right _ (List.mem_append_right _ (List.mem_append_right _ (List.mem_append_right _ (List.mem_append_right _ (List.mem_append_right _ (List.mem_append_right _ (List.mem_append_right _ (List.mem_append_right _ (List.mem_append_right _ (List.mem_append_right _ (List.mem_append_left _ h)))))))))))))))))))))))))))))))))))))
theorem in_r26 {w : Cond} (h : w ∈ wsL_law_r26) : w ∈ wsL_law := List.mem_append_left _ (List.mem_append_left _ (List.mem_append_left _ (List.mem_append_left _ (List.mem_append_left _ (List.mem_append_left _ (List.mem_append_left _ (List.mem_append_left _ (List.mem_append_left _ (List.mem_append_left _ (List.mem_append_left _ (List.mem_append_left _ (List.mem_append_left _ (List.mem_append_right _ (List.mem_append_right _ (List.mem_append_right _ (List.mem_append_right _ (List.mem_append_right _ (List.mem_append_right _ (List.mem_append_right _ (List.mem_append_right _ (List.mem_append_right _ (List.mem_append_right _ (List.mem_append_right _ (List.mem_append_right _ (List.mem_append_right _ (List.mem_append_right _ (List.mem_append_right _ (List.mem_append_right _ (List.mem_append_right _ (List.mem_append_right _ (List.mem_append_right _ (List.mem_append_right _ (List.mem_append_right _ (List.mem_append_right _ (List.mem_append_right _ (List.mem_append_right _ (List.mem_append_right _ (List.mem_append_left _ h))))))))))))))))))))))))))))))))))))))
theorem in_r27 {w : Cond} (h : w ∈ wsL_law_r27) : w ∈ wsL_law := List.mem_append_left _ (List.mem_append_left _ (List.mem_append_left _ (List.mem_append_left _ (List.mem_append_left _ (List.mem_append_left _ (List.mem_append_left _ (List.mem_append_left _ (List.mem_append_left _ (List.mem_append_left _ (List.mem_append_left _ (List.mem_append_left _ (List.mem_append_left _ (List.mem_append_right _ (List.mem_append_right _ (List.mem_append_right _ (List.mem_append_right _ (List.mem_append_right _ (List.mem_append_right _ (List.mem_append_right _ (List.mem_append_right _ (List.mem_append_right _ (List.mem_append_right _ (List.mem_append_right _ (List.mem_append_right _ (List.mem_append_right _ (List.mem_append_right _ (List.mem_append_right _ (List.mem_append_right _ (List.mem_append_right _ (List.mem_append_right _ (List.mem_append_right _ (List.mem_append_right _ (List.mem_append_right _ (List.mem_append_right _ (List.mem_append_right _ (List.mem_append_right _ (List.mem_append_right _ (List.mem_append_right _ (List.mem_append_left _ h)))))))))))))))))))))))))))))))))))))))
theorem in_r28 {w : Cond} (h : w ∈ wsL_law_r28) : w ∈ wsL_law := List.mem_append_left _ (List.mem_append_left _ (List.mem_append_left _ (List.mem_append_left _ (List.mem_append_left _ (List.mem_append_left _ (List.mem_append_left _ (List.mem_append_left _ (List.mem_append_left _ (List.mem_append_left _ (List.mem_append_left _ (List.mem_append_left _ (List.mem_append_left _ (List.mem_append_right _ (List.mem_append_right _ (List.mem_append_right _ (List.mem_append_right _ (List.mem_append_right _ (List.mem_append_right _ (List.mem_append_right _ (List.mem_append_right _ (List.mem_append_right _ (List.mem_append_right _ (List.mem_append_right _ (List.mem_append_right _ (List.mem_append_right _ (List.mem_append_right _ (List.mem_append_right _ (List.mem_append_right _ (List.mem_append_right _ (List.mem_append_right _ (List.mem_append_right _ (List.mem_append_right _ (List.mem_append_right _ (List.mem_append_right _ (List.mem_append_right _ (List.mem_append_right _ (List.mem_append_right _ (List.mem_append_right _ (List.mem_append_right _ (List.mem_append_left _ h))))))))))))))))))))))))))))))))))))))))
theorem in_r29 {w : Cond} (h : w ∈ wsL_law_r29) : w ∈ wsL_law := List.mem_append_left _ (List.mem_append_left _ (List.mem_append_left _ (List.mem_append_left _ (List.mem_append_left _ (List.mem_append_left _ (List.mem_append_left _ (List.mem_append_left _ (List.mem_append_left _ (List.mem_append_left _ (List.mem_append_left _ (List.mem_append_left _ (List.mem_append_left _ (List.mem_append_right _ (List.mem_append_right _ (List.mem_append_right _ (List.mem_append_right _ (List.mem_append_right _ (List.mem_append_right _ (List.mem_append_right _ (List.mem_append_right _ (List.mem_append_right _ (List.mem_append_right _ (List.mem_append_right _ (List.mem_append_right _ (List.mem_append_right _ (List.mem_append_right _ (List.mem_append_right _ (List.mem_append_right _ (List.mem_append_right _ (List.mem_append_right _ (List.mem_append_right _ (List.mem_append_right _ (List.mem_append_right _ (List.mem_append_right _ (List.mem_append_right _ (List.mem_append_right _ (List.mem_append_right _ (List.mem_append_right _ (List.mem_append_right _ (List.mem_append_right _ (List.mem_append_left _ h)))))))))))))))))))))))))))))))))))))))))
theorem in_r30 {w : Cond} (h : w ∈ wsL_law_r30) : w ∈ wsL_law := List.mem_append_left _ (List.mem_append_left _ (List.mem_append_left _ (List.mem_append_left _ (List.mem_append_left _ (List.mem_append_left _ (List.mem_append_left _ (List.mem_append_left _ (List.mem_append_left _ (List.mem_append_left _ (List.mem_append_left _ (List.mem_append_left _ (List.mem_append_left _ (List.mem_append_right _ (List.mem_append_right _ (List.mem_append_right _ (List.mem_append_right _ (List.mem_append_right _ (List.mem_append_right _ (List.mem_append_right _ (List.mem_append_right _ (List.mem_append_right _ (List.mem_append_right _ (List.mem_append_right _ (List.mem_append_right _ (List.mem_append_right _ (List.mem_append_right _ (List.mem_append_right _ (List.mem_append_right _ (List.mem_append_right _ (List.mem_append_right _ (List.mem_append_right _ (List.mem_append_right _ (List.mem_append_right _ (List.mem_append_right _ (List.mem_append_right _ (List.mem_append_right _ (List.mem_append_right _ (List.mem_append_right _ (List.mem_append_right _ (List.mem_append_right _ (List.mem_append_right _ (List.mem_append_left _ h))))))))))))))))))))))))))))))))))))))))))
theorem in_r31 {w : Cond} (h : w ∈ wsL_law_r31) : w ∈ wsL_law := List.mem_append_left _ (List.mem_append_left _ (List.mem_append_left _ (List.mem_append_left _ (List.mem_append_left _ (List.mem_append_left _ (List.mem_append_left _ (List.mem_append_left _ (List.mem_append_left _ (List.mem_append_left _ (List.mem_append_left _ (List.mem_append_left _ (List.mem_append_left _ (List.mem_append_right _ (List.mem_append_right _ (List.mem_append_right _ (List.mem_append_right _ (List.mem_append_right _ (List.mem_append_right _ (List.mem_append_right _ (List.mem_append_right _ (List.mem_append_right _ (List.mem_append_right _ (List.mem_append_right _ (List.mem_append_right _ (List.mem_append_right _ (List.mem_append_right _ (List.mem_append_right _ (List.mem_append_right _ (List.mem_append_right _ (List.mem_append_right _ (List.mem_append_right _ (List.mem_append_right _ (List.mem_append_right _ (List.mem_append_right _ (List.mem_append_right _ (List.mem_append_right _ (List.mem_append_right _ (List.mem_append_right _ (List.mem_append_right _ (List.mem_append_right _ (List.mem_append_right _ (List.mem_append_right _ (List.mem_append_left _ h)))))))))))))))))))))))))))))))))))))))))))
theorem in_r32 {w : Cond} (h : w ∈ wsL_law_r32) : w ∈ wsL_law := List.mem_append_left _ (List.mem_append_left _ (List.mem_append_left _ (List.mem_append_left _ (List.mem_append_left _ (List.mem_append_left _ (List.mem_append_left _ (List.mem_append_left _ (List.mem_append_left _ (List.mem_append_left _ (List.mem_append_left _ (List.mem_append_left _ (List.mem_append_left _ (List.mem_append_right _ (List.mem_append_right _ (List.mem_append_right _ (List.mem_append_right _ (List.mem_append_right _ (List.mem_append_right _ (List.mem_append_right _ (List.mem_append_right _ (List.mem_append_right _ (List.mem_append_right _ (List.mem_append_right _ (List.mem_append_right _ (List.mem_append_right _ (List.mem_append_right _ (List.mem_append_right _ (List.mem_append_right _ (List.mem_append_right _ (List.mem_append_right _ (List.mem_append_right _ (List.mem_append_right _ (List.mem_append_right _ (List.mem_append_right _ (List.mem_append_right _ (List.mem_append_right _ (List.mem_append_right _ (List.mem_append_right _ (List.mem_append_right _ (List.mem_append_right _ (List.mem_append_right _ (List.mem_append_right _ (List.mem_append_right _ (List.mem_append_left _ h))))))))))))))))))))))))))))))))))))))))))))
theorem in_r33 {w : Cond} (h : w ∈ wsL_law_r33) : w ∈ wsL_law := List.mem_append_left _ (List.mem_append_left _ (List.mem_append_left _ (List.mem_append_left _ (List.mem_append_left _ (List.mem_append_left _ (List.mem_append_left _ (List.mem_append_left _ (List.mem_append_left _ (List.mem_append_left _ (List.mem_append_left _ (List.mem_append_left _ (List.mem_append_left _ (List.mem_append_right _ (List.mem_append_right _ (List.mem_append_right _ (List.mem_append_right _ (List.mem_append_right _ (List.mem_append_right _ (List.mem_append_right _ (List.mem_append_right _ (List.mem_append_right _ (List.mem_append_right _ (List.mem_append_right _ (List.mem_append_right _ (List.mem_append_right _ (List.mem_append_right _ (List.mem_append_right _ (List.mem_append_right _ (List.mem_append_right _ (List.mem_append_right _ (List.mem_append_right _ (List.mem_append_right _ (List.mem_append_right _ (List.mem_append_right _ (List.mem_append_right _ (List.mem_append_right _ (List.mem_append_right _ (List.mem_append_right _ (List.mem_append_right _ (List.mem_append_right _ (List.mem_append_right _ (List.mem_append_right _ (List.mem_append_right _ (List.mem_append_right _ (List.mem_append_left _ h)))))))))))))))))))))))))))))))))))))))))))))
theorem in_r34 {w : Cond} (h : w ∈ wsL_law_r34) : w ∈ wsL_law := List.mem_append_left _ (List.mem_append_left _ (List.mem_append_left _ (List.mem_append_left _ (List.mem_append_left _ (List.mem_append_left _ (List.mem_append_left _ (List.mem_append_left _ (List.mem_append_left _ (List.mem_append_left _ (List.mem_append_left _ (List.mem_append_left _ (List.mem_append_left _ (List.mem_append_right _ (List.mem_append_right _ (List.mem_append_right _ (List.mem_append_right _ (List.mem_append_right _ (List.mem_append_right _ (List.mem_append_right _ (List.mem_append_right _ (List.mem_append_right _ (List.mem_append_right _ (List.mem_append_right _ (List.mem_append_right _ (List.mem_append_right _ (List.mem_append_right _ (List.mem_append_right _ (List.mem_append_right _ (List.mem_append_right _ (List.mem_append_right _ (List.mem_append_right _ (List.mem_append_right _ (List.mem_append_right _ (List.mem_append_right _ (List.mem_append_right _ (List.mem_append_right _ (List.mem_append_right _ (List.mem_append_right _ (List.mem_append_right _ (List.mem_append_right _ (List.mem_append_right _ (List.mem_append_right _ (List.mem_append_right _ (List.mem_append_right _ (List.mem_append_right _ (h))))))))))))))))))))))))))))))))))))))))))))))
set_option maxRecDepth 20000 in
theorem wsL_good : wsL_law.all goodWord = true := by decide +kernel
end
section
/-! ===== numbers: an int as zI of an integer ===== -/
def zI (x : Int) : Int32 := Int32.ofInt x
abbrev vi (x : Int) : Value := .int (zI x)
def zR (f : Int → Int) : Nat → Int32 := fun j => zI (f (j : Int))
def zU (f : Int → Int) (i v : Int) : Int → Int := fun k => if k = i then v else f k
theorem zU_eq (f : Int → Int) (i v : Int) : zU f i v i = v := if_pos rfl
theorem zU_ne (f : Int → Int) {i k : Int} (v : Int) (h : k ≠ i) : zU f i v k = f k := if_neg h
theorem zI_toInt {x : Int} (h : -2147483648 ≤ x ∧ x ≤ 2147483647) : (zI x).toInt = x := Int32.toInt_ofInt_of_le (by omega) (by omega)
theorem zI_self (x : Int32) : zI x.toInt = x := Int32.ofInt_toInt x
theorem zI_lt {x y : Int} (h : -2147483648 ≤ x ∧ x ≤ 2147483647 ∧ -2147483648 ≤ y ∧ y ≤ 2147483647) : zI x < zI y ↔ x < y := by
  rw [Int32.lt_iff_toInt_lt, zI_toInt ⟨h.1, h.2.1⟩, zI_toInt h.2.2]
theorem zI_le {x y : Int} (h : -2147483648 ≤ x ∧ x ≤ 2147483647 ∧ -2147483648 ≤ y ∧ y ≤ 2147483647) : zI x ≤ zI y ↔ x ≤ y := by
  rw [Int32.le_iff_toInt_le, zI_toInt ⟨h.1, h.2.1⟩, zI_toInt h.2.2]
theorem zI_eq {x y : Int} (h : -2147483648 ≤ x ∧ x ≤ 2147483647 ∧ -2147483648 ≤ y ∧ y ≤ 2147483647) : zI x = zI y ↔ x = y := by
  rw [← Int32.toInt_inj, zI_toInt ⟨h.1, h.2.1⟩, zI_toInt h.2.2]
theorem zI_cl {i : Int} (h : 0 ≤ i ∧ i ≤ 2147483647) : (zI i).toNatClampNeg = i.toNat := Int32.toNatClampNeg_ofInt_of_le (by omega) (by omega)
theorem zI_add (x y : Int) : zI x + zI y = zI (x + y) := (Int32.ofInt_add x y).symm
theorem zI_sub (x y : Int) : zI x - zI y = zI (x - y) := (Int32.ofInt_sub x y).symm
theorem zI_mul (x y : Int) : zI x * zI y = zI (x * y) := (Int32.ofInt_mul x y).symm
theorem zI_neg (x : Int) : - zI x = zI (-x) := (Int32.ofInt_neg x).symm
theorem zI_nat (n : Nat) : Int32.ofNat n = zI (n : Int) := by
  unfold zI; simp [Int32.ofInt_eq_ofNat]
theorem zI_div {x y : Int} (h : 0 ≤ x ∧ x ≤ 2147483647 ∧ 0 < y ∧ y ≤ 2147483647) : zI x / zI y = zI (x / y) := by
  have hq : 0 ≤ x / y := Int.ediv_nonneg h.1 (by omega)
  have hq2 : x / y ≤ x := Int.ediv_le_self y h.1
  apply Int32.toInt_inj.mp
  rw [Int32.toInt_div_of_ne_right _ _ (by
    intro hh
    have := congrArg Int32.toInt hh
    rw [zI_toInt (by omega)] at this
    rw [show (-1 : Int32).toInt = -1 from rfl] at this
    omega), zI_toInt (by omega), zI_toInt (by omega), zI_toInt (by omega), Int.tdiv_eq_ediv_of_nonneg h.1]
theorem zI_rem {x y : Int} (h : 0 ≤ x ∧ x ≤ 2147483647 ∧ 0 < y ∧ y ≤ 2147483647) : zI x - zI x / zI y * zI y = zI (x % y) := by
  rw [zI_div h, zI_mul, zI_sub]
  congr 1
  have := Int.mul_ediv_add_emod x y
  rw [Int.mul_comm] at this
  omega
theorem zI_in {i : Int} {n : Nat} (hn : Nat.ble n 1000000 = true) (h : 0 ≤ i ∧ i < n) : vp_in (zI i) n := by
  have := Nat.le_of_ble_eq_true hn
  exact vp_in_iff.mpr (by rw [zI_toInt (by omega)]; exact h)
theorem zR_at {f : Int → Int} {i : Int} {n : Nat} (hn : Nat.ble n 1000000 = true) (h : 0 ≤ i ∧ i < n) : zR f (zI i).toNatClampNeg = zI (f i) := by
  have := Nat.le_of_ble_eq_true hn
  rw [zI_cl (by omega), zR, Int.toNat_of_nonneg h.1]
theorem zR_up {f : Int → Int} {i v : Int} {n : Nat} (hn : Nat.ble n 1000000 = true) (h : 0 ≤ i ∧ i < n) : upd (zR f) (zI i).toNatClampNeg (zI v) = zR (zU f i v) := by
  have := Nat.le_of_ble_eq_true hn
  funext j
  rw [zI_cl (by omega)]
  unfold upd zR zU
  by_cases hj : j = i.toNat
  · rw [if_pos hj, if_pos (by rw [hj]; exact Int.toNat_of_nonneg h.1)]
  · rw [if_neg hj, if_neg (by omega)]
theorem zR_of (r : Nat → Int32) : r = zR (fun k => (r k.toNat).toInt) := by
  funext j
  show r j = zI (r ((j : Int)).toNat).toInt
  rw [Int.toNat_natCast, zI_self]
theorem zI_b8 (n : Int) (h : (Int8.ofInt n).toInt32 = zI n) : (Int8.ofInt n).toInt32 = zI n := h
/-! ===== the tables: array classes, nest mates, statics ===== -/
abbrev Gx : Type := va_G × ClassId × ClassId × ClassId × ClassId
abbrev tyG (g : Gx) : List (ClassId × FieldType) := [(g.2.1, .char), (g.2.2.1, .int), (g.2.2.2.1, .boolean), (g.2.2.2.2, .object RX7)]
abbrev aC (g : Gx) (n : Nat) (f : Int → Int) : va_E := .inl (g.2.1, n, .inl (zR f))
abbrev aI (g : Gx) (n : Nat) (f : Int → Int) : va_E := .inl (g.2.2.1, n, .inl (zR f))
abbrev aZ (g : Gx) (n : Nat) (f : Int → Int) : va_E := .inl (g.2.2.2.1, n, .inl (zR f))
abbrev aQ (g : Gx) (n : Nat) (f : Nat → Option Nat) : va_E := .inl (g.2.2.2.2, n, .inr (.inr (.inr (.inr f))))
abbrev oB (ci : Nat) (fs : List Value) : va_E := .inr (ci, fs)
def Nst (U : State) : Prop := (∀ q ∈ nwF, va_Nw (.fieldLinkNest q.1 q.2.1 q.2.2.1 q.2.2.2.1 q.2.2.2.2.1 q.2.2.2.2.2) U) ∧ ∀ q ∈ nwM, va_Nw (.methodLinkNest q.1 q.2.1 q.2.2.1 q.2.2.2) U
theorem Nst.warm {s U : State} (hW : s.WarmedH U.vm) (h : Nst s) : Nst U := ⟨fun q hq => va_Nw.warmF hW (h.1 q hq), fun q hq => va_Nw.warmM hW (h.2 q hq)⟩
theorem Nst.same {s U : State} (hv : s.vm = U.vm) (h : Nst s) : Nst U := ⟨fun q hq => va_Nw.same rfl hv (h.1 q hq), fun q hq => va_Nw.same rfl hv (h.2 q hq)⟩
def stp1 : Nat → Value := fun j => vi (if j = 0 then 1 else if j = 1 then 1 else 3)
def stp2 : Nat → Value := fun j => vi (if j = 0 then 2 else if j = 1 then 1 else 4)
def ZG (A : Nat → Prop) (U : State) (H : Heap) : Prop := ∃ a1 a2 : Nat, va_Z RX1 "STRAIGHT_STEP" "[I" (.ref a1) A U H ∧ va_T .int a1 3 stp1 A U H ∧ va_Z RX1 "SLANTED_STEP" "[I" (.ref a2) A U H ∧ va_T .int a2 3 stp2 A U H
theorem ZG.moved {A : Nat → Prop} {u U : State} {H : Heap} (hv : u.vm.Alike U.vm) (h : ZG A u H) : ZG A U H := by
  obtain ⟨a1, a2, h1, h2, h3, h4⟩ := h
  exact ⟨a1, a2, h1.moved hv, h2.moved hv, h3.moved hv, h4.moved hv⟩
theorem ZG.kept {A : Nat → Prop} {U : State} {H H1 : Heap} (h : ZG A U H) (hq : ∀ a : Nat, a < H.size → ¬ A a → H1[a]? = H[a]?) : ZG A U H1 := by
  obtain ⟨a1, a2, h1, h2, h3, h4⟩ := h
  exact ⟨a1, a2, h1.kept hq, h2.kept hq, h3.kept hq, h4.kept hq⟩
theorem ZG.narrow {A B : Nat → Prop} {U : State} {H : Heap} (h : ZG A U H) (hAB : ∀ q, B q → A q) : ZG B U H := by
  obtain ⟨a1, a2, h1, h2, h3, h4⟩ := h
  exact ⟨a1, a2, h1.narrow hAB, h2.narrow hAB, h3.narrow hAB, h4.narrow hAB⟩
/-! ===== what holds all along a walk; a walk's state ===== -/
def CX (g : Gx) (own : String) (cc : ByteArray) (nL : Nat) (ret : Option FieldType) (A : Nat → Prop) (p : Program) (s : State) (m : MethodId) (args : Array Value) (meth : Method) (c : Code) : Prop :=
  p.tables.exec = Jvm.exec ∧ c.code = cc ∧ c.maxLocals = nL ∧ s.vm.findClass own = some m.cls ∧ (∀ w ∈ wsL_law, w.before args s = true) ∧ va_K g.1 vwCl (tyG g) s ∧ Nst s ∧ meth.sig.returnType = ret ∧ meth.locks = false ∧ (∀ q : Nat, s.heap.size ≤ q → A q) ∧ ZG A s s.heap
def RUN (g : Gx) (nL : Nat) (p : Program) (l : Launch) (e : Env) (R : Room) (s : State) (m : MethodId) (args : Array Value) (below : List Frame) (meth : Method) (c : Code) (A : Nat → Prop) (cells slots : Nat) (Q : State → Prop) (ws : va_W) (pc : Nat) (lv : List (Nat × Value)) (st : List Value) : Prop :=
  ∀ (ls : Array Slot) (H : Heap) (locs : List Loc), lv_has ls nL lv → va_P g.1 vwCl ws H → va_D A ws → va_S A s.heap H locs → W p l e R s m args below meth c H locs cells slots Q (F0 m pc ls st)
def PR (g : Gx) (av : List Value) (ws : va_W) (sz : Nat) : Array Value → State → Prop :=
  va_Pc av (fun U => U.heap.size = sz ∧ va_P g.1 vwCl ws U.heap ∧ va_K g.1 vwCl (tyG g) U ∧ va_D (fun _ => True) ws ∧ Nst U ∧ ZG (va_A ws sz) U U.heap)
def PB {S : Type} (g : Gx) (Wf : S → va_W) (ws : va_W) (sz : Nat) (u : S) (t : State) : Prop := va_P g.1 vwCl (Wf u) t.heap ∧ va_D (va_A ws sz) (Wf u)
def PI {S : Type} (g : Gx) (post : Int → S → Prop) (Wf : S → va_W) (ws : va_W) (sz : Nat) : Array Value → State → Outcome → State → Prop :=
  va_Qi (fun r u => ∃ x : Int, r = zI x ∧ post x u) (PB g Wf ws sz) (va_A ws sz)
def PV {S : Type} (g : Gx) (post : S → Prop) (Wf : S → va_W) (ws : va_W) (sz : Nat) : Array Value → State → Outcome → State → Prop :=
  va_Qv post (PB g Wf ws sz) (va_A ws sz)
def PA {S : Type} (g : Gx) (b : Nat) (post : S → Prop) (Wf : S → va_W) (ws : va_W) (sz : Nat) : Array Value → State → Outcome → State → Prop :=
  va_Qr post (fun u a t => a = b ∧ PB g Wf ws sz u t) (va_A ws sz)
theorem PR.blind {g : Gx} {av : List Value} {ws : va_W} {sz : Nat} : FrameBlind (PR g av ws sz) := by
  intro a U f mk h
  obtain ⟨q0, q1, qP, qK, qD, qN, qZ⟩ := h
  exact ⟨q0, q1, qP, va_K.moved (u := U) (U := U.calling f mk a) (Vm.Alike.refl U.vm) qK, qD, Nst.same (s := U) (U := U.calling f mk a) rfl qN, ZG.moved (u := U) (U := U.calling f mk a) (Vm.Alike.refl U.vm) qZ⟩
/-! ===== putting back what a call gave ===== -/
def wput : va_W → List Nat → va_W → va_W
  | ws, i :: is, e :: es => wput (ws.set i e) is es
  | ws, [], _ => ws
  | ws, _ :: _, [] => ws
theorem wput_get : ∀ (is : List Nat) (es : va_W) (ws : va_W) (k : Nat) (q : Nat × va_E), is.length = es.length → (wput ws is es)[k]? = some q → (∃ j : Nat, is[j]? = some k ∧ es[j]? = some q) ∨ (ws[k]? = some q ∧ k ∉ is) := by
  intro is
  induction is with
  | nil => intro es ws k q _ h; exact Or.inr ⟨by simpa [wput] using h, List.not_mem_nil⟩
  | cons i is ih =>
    intro es ws k q hl h
    cases es with
    | nil => simp at hl
    | cons e es =>
      rcases ih es (ws.set i e) k q (by simpa using hl) h with ⟨j, h1, h2⟩ | ⟨h1, h2⟩
      · exact Or.inl ⟨j + 1, by simpa using h1, by simpa using h2⟩
      · by_cases hk : i = k
        · subst hk
          rw [List.getElem?_set] at h1
          simp only [if_true] at h1
          split at h1
          · exact Or.inl ⟨0, by simp, by simpa using h1⟩
          · cases h1
        · rw [List.getElem?_set_ne hk] at h1
          exact Or.inr ⟨h1, by simp only [List.mem_cons, not_or]; exact ⟨fun e => hk e.symm, h2⟩⟩
theorem map_some_get {α : Type} {is : List Nat} {ws wc : List α} (h : is.map (fun i => ws[i]?) = wc.map some) {j k : Nat} (hj : is[j]? = some k) : ∃ q, wc[j]? = some q ∧ ws[k]? = some q := by
  have h1 := congrArg (fun l => l[j]?) h
  simp only [List.getElem?_map, hj, Option.map_some] at h1
  cases hw : wc[j]? with
  | none => rw [hw] at h1; simp at h1
  | some q => rw [hw] at h1; exact ⟨q, rfl, by simpa using h1⟩
theorem wput_adr {ws wc w1 : va_W} {is : List Nat} (hC : is.map (fun i => ws[i]?) = wc.map some) (ha : w1.map Prod.fst = wc.map Prod.fst) {k : Nat} {q : Nat × va_E} (h : (wput ws is w1)[k]? = some q) : ∃ q' : Nat × va_E, ws[k]? = some q' ∧ q'.1 = q.1 := by
  have hl1 : is.length = wc.length := by simpa using congrArg List.length hC
  have hl2 : w1.length = wc.length := by simpa using congrArg List.length ha
  rcases wput_get is w1 ws k q (by omega) h with ⟨j, h1, h2⟩ | ⟨h1, -⟩
  · obtain ⟨q', h3, h4⟩ := map_some_get hC h1
    have h5 := congrArg (fun l => l[j]?) ha
    simp only [List.getElem?_map, h2, h3, Option.map_some] at h5
    exact ⟨q', h4, (Option.some.inj h5).symm⟩
  · exact ⟨q, h1, rfl⟩
theorem wput_P {A0 : Nat → Prop} {D : va_G} {cl : List vw_C} {ws wc w1 : va_W} {H H1 : Heap} {is : List Nat} (hP : va_P D cl ws H) (hD : va_D A0 ws) (hC : is.map (fun i => ws[i]?) = wc.map some) (ha : w1.map Prod.fst = wc.map Prod.fst)
    (hk : ∀ q : Nat, q < H.size → ¬ va_A wc H.size q → H1[q]? = H[q]?) (hP1 : va_P D cl w1 H1) : va_P D cl (wput ws is w1) H1 ∧ va_D A0 (wput ws is w1) := by
  have hl1 : is.length = wc.length := by simpa using congrArg List.length hC
  have hl2 : w1.length = wc.length := by simpa using congrArg List.length ha
  refine ⟨fun k q hq => ?_, fun i j p q hi hj hpq => ?_, fun k q hq => ?_⟩
  · rcases wput_get is w1 ws k q (by omega) hq with ⟨j, -, h2⟩ | ⟨h1, h2⟩
    · exact hP1 j q h2
    · have hat := hP k q h1
      refine va_at.kept hat (hk _ (va_at.lt hat) ?_)
      rintro (⟨j, e, hj⟩ | hge)
      · have hjl : j < is.length := by
          rw [hl1]
          exact (List.getElem?_eq_some_iff.mp hj).1
        obtain ⟨q', h3, h4⟩ := map_some_get hC (List.getElem?_eq_getElem hjl)
        rw [hj] at h3
        cases h3
        have := hD.1 k is[j] q (q.1, e) h1 h4 rfl
        exact h2 (this ▸ List.getElem_mem hjl)
      · exact absurd (va_at.lt hat) (Nat.not_lt.mpr hge)
  · obtain ⟨p', h1, h2⟩ := wput_adr hC ha hi
    obtain ⟨q', h3, h4⟩ := wput_adr hC ha hj
    exact hD.1 i j p' q' h1 h3 (by rw [h2, h4]; exact hpq)
  · obtain ⟨q', h1, h2⟩ := wput_adr hC ha hq
    rw [← h2]
    exact hD.2 k q' h1
end
section
theorem qs_max : Cond.static Lib.Math.max.name ∈ wsL_law := in_r22 (List.mem_of_getElem? (i := 21) rfl)
theorem qc_max : Cond.code Lib.Math.max.name Lib.Math.max.code 2 (some .int) ∈ wsL_law := in_r22 (List.mem_of_getElem? (i := 22) rfl)
theorem qs_min : Cond.static Lib.Math.min.name ∈ wsL_law := in_r17 (List.mem_of_getElem? (i := 2) rfl)
theorem qc_min : Cond.code Lib.Math.min.name Lib.Math.min.code 2 (some .int) ∈ wsL_law := in_r17 (List.mem_of_getElem? (i := 4) rfl)
theorem qs_abs : Cond.static Lib.Math.abs.name ∈ wsL_law := in_r22 (List.mem_of_getElem? (i := 18) rfl)
theorem qc_abs : Cond.code Lib.Math.abs.name Lib.Math.abs.code 1 (some .int) ∈ wsL_law := in_r22 (List.mem_of_getElem? (i := 19) rfl)
theorem qs_Math : Cond.initialized "java/lang/Math" ∈ wsL_law := in_r17 (List.mem_of_getElem? (i := 3) rfl)
section
variable {g : Gx} {own : String} {cc : ByteArray} {nL : Nat} {ret : Option FieldType} {p : Program} {l : Launch} {e : Env} {R : Room} {s : State} {m : MethodId} {args : Array Value} {below : List Frame} {meth : Method} {c : Code} {A : Nat → Prop} {cells slots : Nat} {Q : State → Prop} {ws : va_W} {pc : Nat} {lv : List (Nat × Value)} {st : List Value}
theorem r_iconst (C : CX g own cc nL ret A p s m args meth c) {n : Int} (hd : decode cc pc = .ok (.iconst n, 1)) (k : RUN g nL p l e R s m args below meth c A cells slots Q ws (pc + 1) lv (vi n :: st)) : RUN g nL p l e R s m args below meth c A cells slots Q ws pc lv st :=
  fun ls H locs h1 h2 h3 h4 => lv_iconst C.1 C.2.1 hd rfl (k ls H locs h1 h2 h3 h4)
theorem r_bipush (C : CX g own cc nL ret A p s m args meth c) {n : Int} (hd : decode cc pc = .ok (.bipush n, 2)) (hn : (Int8.ofInt n).toInt32 = zI n) (k : RUN g nL p l e R s m args below meth c A cells slots Q ws (pc + 2) lv (vi n :: st)) : RUN g nL p l e R s m args below meth c A cells slots Q ws pc lv st :=
  fun ls H locs h1 h2 h3 h4 => lv_bipush C.1 C.2.1 hd hn (k ls H locs h1 h2 h3 h4)
theorem r_sipush (C : CX g own cc nL ret A p s m args meth c) {n : Int} (hd : decode cc pc = .ok (.sipush n, 3)) (hn : (Int16.ofInt n).toInt32 = zI n) (k : RUN g nL p l e R s m args below meth c A cells slots Q ws (pc + 3) lv (vi n :: st)) : RUN g nL p l e R s m args below meth c A cells slots Q ws pc lv st :=
  fun ls H locs h1 h2 h3 h4 => lv_sipush C.1 C.2.1 hd hn (k ls H locs h1 h2 h3 h4)
theorem r_ldc (C : CX g own cc nL ret A p s m args meth c) {i : Nat} {n : Int} {v : Int32} (hw : Cond.constant own i v ∈ wsL_law) (hv : v = zI n) (hd : decode cc pc = .ok (.ldc i, 2)) (k : RUN g nL p l e R s m args below meth c A cells slots Q ws (pc + 2) lv (vi n :: st)) : RUN g nL p l e R s m args below meth c A cells slots Q ws pc lv st :=
  fun ls H locs h1 h2 h3 h4 => by
  subst hv
  exact lv_ldc C.1 C.2.1 C.2.2.2.1 (C.2.2.2.2.1 _ hw) hd (k ls H locs h1 h2 h3 h4)
theorem r_ldcw (C : CX g own cc nL ret A p s m args meth c) {i : Nat} {n : Int} {v : Int32} (hw : Cond.constant own i v ∈ wsL_law) (hv : v = zI n) (hd : decode cc pc = .ok (.ldc_w i, 3)) (k : RUN g nL p l e R s m args below meth c A cells slots Q ws (pc + 3) lv (vi n :: st)) : RUN g nL p l e R s m args below meth c A cells slots Q ws pc lv st :=
  fun ls H locs h1 h2 h3 h4 => by
  subst hv
  exact lv_ldcw C.1 C.2.1 C.2.2.2.1 (C.2.2.2.2.1 _ hw) hd (k ls H locs h1 h2 h3 h4)
theorem r_iload_n (C : CX g own cc nL ret A p s m args meth c) {f : Fin 4} {x : Int} (hd : decode cc pc = .ok (.iload_n f, 1)) (j : Nat) (hj : lv[j]? = some ((f : Nat), vi x)) (k : RUN g nL p l e R s m args below meth c A cells slots Q ws (pc + 1) lv (vi x :: st)) : RUN g nL p l e R s m args below meth c A cells slots Q ws pc lv st :=
  fun ls H locs h1 h2 h3 h4 => lv_iload_n C.1 C.2.1 hd rfl (lv_at h1 j hj) (k ls H locs h1 h2 h3 h4)
theorem r_iload (C : CX g own cc nL ret A p s m args meth c) {i : Nat} {x : Int} (hd : decode cc pc = .ok (.iload i, 2)) (j : Nat) (hj : lv[j]? = some (i, vi x)) (k : RUN g nL p l e R s m args below meth c A cells slots Q ws (pc + 2) lv (vi x :: st)) : RUN g nL p l e R s m args below meth c A cells slots Q ws pc lv st :=
  fun ls H locs h1 h2 h3 h4 => lv_iload C.1 C.2.1 hd (lv_at h1 j hj) (k ls H locs h1 h2 h3 h4)
theorem r_aload_n (C : CX g own cc nL ret A p s m args meth c) {f : Fin 4} {a : Nat} (hd : decode cc pc = .ok (.aload_n f, 1)) (j : Nat) (hj : lv[j]? = some ((f : Nat), .ref a)) (k : RUN g nL p l e R s m args below meth c A cells slots Q ws (pc + 1) lv (.ref a :: st)) : RUN g nL p l e R s m args below meth c A cells slots Q ws pc lv st :=
  fun ls H locs h1 h2 h3 h4 => lv_aload_n C.1 C.2.1 hd rfl (lv_at h1 j hj) (k ls H locs h1 h2 h3 h4)
theorem r_aload (C : CX g own cc nL ret A p s m args meth c) {i : Nat} {a : Nat} (hd : decode cc pc = .ok (.aload i, 2)) (j : Nat) (hj : lv[j]? = some (i, .ref a)) (k : RUN g nL p l e R s m args below meth c A cells slots Q ws (pc + 2) lv (.ref a :: st)) : RUN g nL p l e R s m args below meth c A cells slots Q ws pc lv st :=
  fun ls H locs h1 h2 h3 h4 => lv_aload C.1 C.2.1 hd (lv_at h1 j hj) (k ls H locs h1 h2 h3 h4)
theorem r_istore_n (C : CX g own cc nL ret A p s m args meth c) {f : Fin 4} {x : Int} {lv' : List (Nat × Value)} (hd : decode cc pc = .ok (.istore_n f, 1)) (hn : Nat.ble ((f : Nat) + 1) nL = true) (hl : ((f : Nat), vi x) :: lv.filter (fun q => !(q.1 == (f : Nat)) && !(q.1 + 1 == (f : Nat) && q.2.category == 2)) = lv') (k : RUN g nL p l e R s m args below meth c A cells slots Q ws (pc + 1) lv' st) : RUN g nL p l e R s m args below meth c A cells slots Q ws pc lv (vi x :: st) :=
  fun ls H locs h1 h2 h3 h4 => lv_istore_n C.1 C.2.1 hd rfl h1 (Nat.le_of_ble_eq_true hn) hl (fun ls h1 => k ls H locs h1 h2 h3 h4)
theorem r_istore (C : CX g own cc nL ret A p s m args meth c) {i : Nat} {x : Int} {lv' : List (Nat × Value)} (hd : decode cc pc = .ok (.istore i, 2)) (hn : Nat.ble (i + 1) nL = true) (hl : (i, vi x) :: lv.filter (fun q => !(q.1 == i) && !(q.1 + 1 == i && q.2.category == 2)) = lv') (k : RUN g nL p l e R s m args below meth c A cells slots Q ws (pc + 2) lv' st) : RUN g nL p l e R s m args below meth c A cells slots Q ws pc lv (vi x :: st) :=
  fun ls H locs h1 h2 h3 h4 => lv_istore C.1 C.2.1 hd h1 (Nat.le_of_ble_eq_true hn) hl (fun ls h1 => k ls H locs h1 h2 h3 h4)
theorem r_astore_n (C : CX g own cc nL ret A p s m args meth c) {f : Fin 4} {a : Nat} {lv' : List (Nat × Value)} (hd : decode cc pc = .ok (.astore_n f, 1)) (hn : Nat.ble ((f : Nat) + 1) nL = true) (hl : ((f : Nat), Value.ref a) :: lv.filter (fun q => !(q.1 == (f : Nat)) && !(q.1 + 1 == (f : Nat) && q.2.category == 2)) = lv') (k : RUN g nL p l e R s m args below meth c A cells slots Q ws (pc + 1) lv' st) : RUN g nL p l e R s m args below meth c A cells slots Q ws pc lv (.ref a :: st) :=
  fun ls H locs h1 h2 h3 h4 => lv_astore_n C.1 C.2.1 hd rfl h1 (Nat.le_of_ble_eq_true hn) hl (fun ls h1 => k ls H locs h1 h2 h3 h4)
theorem r_astore (C : CX g own cc nL ret A p s m args meth c) {i : Nat} {a : Nat} {lv' : List (Nat × Value)} (hd : decode cc pc = .ok (.astore i, 2)) (hn : Nat.ble (i + 1) nL = true) (hl : (i, Value.ref a) :: lv.filter (fun q => !(q.1 == i) && !(q.1 + 1 == i && q.2.category == 2)) = lv') (k : RUN g nL p l e R s m args below meth c A cells slots Q ws (pc + 2) lv' st) : RUN g nL p l e R s m args below meth c A cells slots Q ws pc lv (.ref a :: st) :=
  fun ls H locs h1 h2 h3 h4 => lv_astore C.1 C.2.1 hd h1 (Nat.le_of_ble_eq_true hn) hl (fun ls h1 => k ls H locs h1 h2 h3 h4)
theorem r_iinc (C : CX g own cc nL ret A p s m args meth c) {i : Nat} {n x : Int} {lv' : List (Nat × Value)} (hd : decode cc pc = .ok (.iinc i n, 3)) (j : Nat) (hj : lv[j]? = some (i, vi x)) (hn : Nat.ble (i + 1) nL = true) (hl : (i, vi (x + n)) :: lv.filter (fun q => !(q.1 == i) && !(q.1 + 1 == i && q.2.category == 2)) = lv') (k : RUN g nL p l e R s m args below meth c A cells slots Q ws (pc + 3) lv' st) : RUN g nL p l e R s m args below meth c A cells slots Q ws pc lv st :=
  fun ls H locs h1 h2 h3 h4 => lv_iinc C.1 C.2.1 hd h1 hj (zI_add x n) (Nat.le_of_ble_eq_true hn) hl (fun ls h1 => k ls H locs h1 h2 h3 h4)
theorem r_iadd (C : CX g own cc nL ret A p s m args meth c) {x y : Int} (hd : decode cc pc = .ok (.iadd, 1)) (k : RUN g nL p l e R s m args below meth c A cells slots Q ws (pc + 1) lv (vi (x + y) :: st)) : RUN g nL p l e R s m args below meth c A cells slots Q ws pc lv (vi y :: vi x :: st) :=
  fun ls H locs h1 h2 h3 h4 => by
  have k1 := k ls H locs h1 h2 h3 h4
  rw [show vi (x + y) = .int (zI x + zI y) from congrArg Value.int (zI_add x y).symm] at k1
  exact lv_iadd C.1 C.2.1 hd k1
theorem r_isub (C : CX g own cc nL ret A p s m args meth c) {x y : Int} (hd : decode cc pc = .ok (.isub, 1)) (k : RUN g nL p l e R s m args below meth c A cells slots Q ws (pc + 1) lv (vi (x - y) :: st)) : RUN g nL p l e R s m args below meth c A cells slots Q ws pc lv (vi y :: vi x :: st) :=
  fun ls H locs h1 h2 h3 h4 => by
  have k1 := k ls H locs h1 h2 h3 h4
  rw [show vi (x - y) = .int (zI x - zI y) from congrArg Value.int (zI_sub x y).symm] at k1
  exact lv_isub C.1 C.2.1 hd k1
theorem r_imul (C : CX g own cc nL ret A p s m args meth c) {x y : Int} (hd : decode cc pc = .ok (.imul, 1)) (k : RUN g nL p l e R s m args below meth c A cells slots Q ws (pc + 1) lv (vi (x * y) :: st)) : RUN g nL p l e R s m args below meth c A cells slots Q ws pc lv (vi y :: vi x :: st) :=
  fun ls H locs h1 h2 h3 h4 => by
  have k1 := k ls H locs h1 h2 h3 h4
  rw [show vi (x * y) = .int (zI x * zI y) from congrArg Value.int (zI_mul x y).symm] at k1
  exact lv_imul C.1 C.2.1 hd k1
theorem r_ineg (C : CX g own cc nL ret A p s m args meth c) {x : Int} (hd : decode cc pc = .ok (.ineg, 1)) (k : RUN g nL p l e R s m args below meth c A cells slots Q ws (pc + 1) lv (vi (-x) :: st)) : RUN g nL p l e R s m args below meth c A cells slots Q ws pc lv (vi x :: st) :=
  fun ls H locs h1 h2 h3 h4 => by
  have k1 := k ls H locs h1 h2 h3 h4
  rw [show vi (-x) = .int (-zI x) from congrArg Value.int (zI_neg x).symm] at k1
  exact lv_ineg C.1 C.2.1 hd k1
theorem r_idiv (C : CX g own cc nL ret A p s m args meth c) {x y : Int} (hd : decode cc pc = .ok (.idiv, 1)) (h : 0 ≤ x ∧ x ≤ 2147483647 ∧ 0 < y ∧ y ≤ 2147483647) (k : RUN g nL p l e R s m args below meth c A cells slots Q ws (pc + 1) lv (vi (x / y) :: st)) : RUN g nL p l e R s m args below meth c A cells slots Q ws pc lv (vi y :: vi x :: st) :=
  fun ls H locs h1 h2 h3 h4 => by
  have k1 := k ls H locs h1 h2 h3 h4
  rw [show vi (x / y) = .int (zI x / zI y) from congrArg Value.int (zI_div h).symm] at k1
  exact lv_idiv C.1 C.2.1 hd (fun e => by have := (zI_eq (x := y) (y := 0) (by omega)).mp e; omega) k1
theorem r_irem (C : CX g own cc nL ret A p s m args meth c) {x y : Int} (hd : decode cc pc = .ok (.irem, 1)) (h : 0 ≤ x ∧ x ≤ 2147483647 ∧ 0 < y ∧ y ≤ 2147483647) (k : RUN g nL p l e R s m args below meth c A cells slots Q ws (pc + 1) lv (vi (x % y) :: st)) : RUN g nL p l e R s m args below meth c A cells slots Q ws pc lv (vi y :: vi x :: st) :=
  fun ls H locs h1 h2 h3 h4 => by
  have k1 := k ls H locs h1 h2 h3 h4
  rw [show vi (x % y) = .int (zI x - zI x / zI y * zI y) from congrArg Value.int (zI_rem h).symm] at k1
  exact lv_irem C.1 C.2.1 hd (fun e => by have := (zI_eq (x := y) (y := 0) (by omega)).mp e; omega) k1
theorem r_iand (C : CX g own cc nL ret A p s m args meth c) {x y z : Int} (hd : decode cc pc = .ok (.iand, 1)) (h : (zI x &&& zI y) = zI z) (k : RUN g nL p l e R s m args below meth c A cells slots Q ws (pc + 1) lv (vi z :: st)) : RUN g nL p l e R s m args below meth c A cells slots Q ws pc lv (vi y :: vi x :: st) :=
  fun ls H locs h1 h2 h3 h4 => by
  have k1 := k ls H locs h1 h2 h3 h4
  rw [show vi z = .int (zI x &&& zI y) from congrArg Value.int h.symm] at k1
  exact lv_iand C.1 C.2.1 hd k1
theorem r_ior (C : CX g own cc nL ret A p s m args meth c) {x y z : Int} (hd : decode cc pc = .ok (.ior, 1)) (h : (zI x ||| zI y) = zI z) (k : RUN g nL p l e R s m args below meth c A cells slots Q ws (pc + 1) lv (vi z :: st)) : RUN g nL p l e R s m args below meth c A cells slots Q ws pc lv (vi y :: vi x :: st) :=
  fun ls H locs h1 h2 h3 h4 => by
  have k1 := k ls H locs h1 h2 h3 h4
  rw [show vi z = .int (zI x ||| zI y) from congrArg Value.int h.symm] at k1
  exact lv_ior C.1 C.2.1 hd k1
theorem r_ixor (C : CX g own cc nL ret A p s m args meth c) {x y z : Int} (hd : decode cc pc = .ok (.ixor, 1)) (h : (zI x ^^^ zI y) = zI z) (k : RUN g nL p l e R s m args below meth c A cells slots Q ws (pc + 1) lv (vi z :: st)) : RUN g nL p l e R s m args below meth c A cells slots Q ws pc lv (vi y :: vi x :: st) :=
  fun ls H locs h1 h2 h3 h4 => by
  have k1 := k ls H locs h1 h2 h3 h4
  rw [show vi z = .int (zI x ^^^ zI y) from congrArg Value.int h.symm] at k1
  exact lv_ixor C.1 C.2.1 hd k1
theorem r_ishl (C : CX g own cc nL ret A p s m args meth c) {x y z : Int} (hd : decode cc pc = .ok (.ishl, 1)) (h : (zI x <<< (zI y &&& 31)) = zI z) (k : RUN g nL p l e R s m args below meth c A cells slots Q ws (pc + 1) lv (vi z :: st)) : RUN g nL p l e R s m args below meth c A cells slots Q ws pc lv (vi y :: vi x :: st) :=
  fun ls H locs h1 h2 h3 h4 => by
  have k1 := k ls H locs h1 h2 h3 h4
  rw [show vi z = .int (zI x <<< (zI y &&& 31)) from congrArg Value.int h.symm] at k1
  exact lv_ishl C.1 C.2.1 hd k1
theorem r_ishr (C : CX g own cc nL ret A p s m args meth c) {x y z : Int} (hd : decode cc pc = .ok (.ishr, 1)) (h : (zI x >>> (zI y &&& 31)) = zI z) (k : RUN g nL p l e R s m args below meth c A cells slots Q ws (pc + 1) lv (vi z :: st)) : RUN g nL p l e R s m args below meth c A cells slots Q ws pc lv (vi y :: vi x :: st) :=
  fun ls H locs h1 h2 h3 h4 => by
  have k1 := k ls H locs h1 h2 h3 h4
  rw [show vi z = .int (zI x >>> (zI y &&& 31)) from congrArg Value.int h.symm] at k1
  exact lv_ishr C.1 C.2.1 hd k1
theorem r_i2c (C : CX g own cc nL ret A p s m args meth c) {x : Int} (hd : decode cc pc = .ok (.i2c, 1)) (h : ((zI x).toUInt32 % 65536).toInt32 = zI x) (k : RUN g nL p l e R s m args below meth c A cells slots Q ws (pc + 1) lv (vi x :: st)) : RUN g nL p l e R s m args below meth c A cells slots Q ws pc lv (vi x :: st) :=
  fun ls H locs h1 h2 h3 h4 => lv_i2c C.1 C.2.1 hd h (k ls H locs h1 h2 h3 h4)
theorem r_dup (C : CX g own cc nL ret A p s m args meth c) {v : Value} (hd : decode cc pc = .ok (.dup, 1)) (hv : v.category = 1) (k : RUN g nL p l e R s m args below meth c A cells slots Q ws (pc + 1) lv (v :: v :: st)) : RUN g nL p l e R s m args below meth c A cells slots Q ws pc lv (v :: st) :=
  fun ls H locs h1 h2 h3 h4 => lv_dup C.1 C.2.1 hd hv (k ls H locs h1 h2 h3 h4)
theorem r_pop (C : CX g own cc nL ret A p s m args meth c) {v : Value} (hd : decode cc pc = .ok (.pop, 1)) (hv : v.category = 1) (k : RUN g nL p l e R s m args below meth c A cells slots Q ws (pc + 1) lv st) : RUN g nL p l e R s m args below meth c A cells slots Q ws pc lv (v :: st) :=
  fun ls H locs h1 h2 h3 h4 => lv_pop C.1 C.2.1 hd hv (k ls H locs h1 h2 h3 h4)
theorem r_dup_x1 (C : CX g own cc nL ret A p s m args meth c) {v w : Value} (hd : decode cc pc = .ok (.dup_x1, 1)) (hv : v.category = 1) (hw : w.category = 1) (k : RUN g nL p l e R s m args below meth c A cells slots Q ws (pc + 1) lv (v :: w :: v :: st)) : RUN g nL p l e R s m args below meth c A cells slots Q ws pc lv (v :: w :: st) :=
  fun ls H locs h1 h2 h3 h4 => lv_dup_x1 C.1 C.2.1 hd hv hw (k ls H locs h1 h2 h3 h4)
theorem r_dup2 (C : CX g own cc nL ret A p s m args meth c) {v w : Value} (hd : decode cc pc = .ok (.dup2, 1)) (hv : v.category = 1) (hw : w.category = 1) (k : RUN g nL p l e R s m args below meth c A cells slots Q ws (pc + 1) lv (v :: w :: v :: w :: st)) : RUN g nL p l e R s m args below meth c A cells slots Q ws pc lv (v :: w :: st) :=
  fun ls H locs h1 h2 h3 h4 => lv_dup2_11 C.1 C.2.1 hd hv hw (k ls H locs h1 h2 h3 h4)
theorem r_goto (C : CX g own cc nL ret A p s m args meth c) {off : Int} (tgt : Nat) (hd : decode cc pc = .ok (.goto off, 3)) (ht : (pc : Int) + off = (tgt : Int)) (k : RUN g nL p l e R s m args below meth c A cells slots Q ws tgt lv st) : RUN g nL p l e R s m args below meth c A cells slots Q ws pc lv st :=
  fun ls H locs h1 h2 h3 h4 => lv_goto C.1 C.2.1 hd ht (k ls H locs h1 h2 h3 h4)
theorem r_icmp_eq (C : CX g own cc nL ret A p s m args meth c) {off : Int} {x y : Int} (tgt : Nat) (hd : decode cc pc = .ok (.if_icmp .eq off, 3)) (ht : (pc : Int) + off = (tgt : Int)) (h : -2147483648 ≤ x ∧ x ≤ 2147483647 ∧ -2147483648 ≤ y ∧ y ≤ 2147483647) (kt : x = y → RUN g nL p l e R s m args below meth c A cells slots Q ws tgt lv st) (kf : ¬ (x = y) → RUN g nL p l e R s m args below meth c A cells slots Q ws (pc + 3) lv st) : RUN g nL p l e R s m args below meth c A cells slots Q ws pc lv (vi y :: vi x :: st) :=
  fun ls H locs h1 h2 h3 h4 => lv_icmp_eq C.1 C.2.1 hd ht (fun q => kt ((zI_eq h).mp q) ls H locs h1 h2 h3 h4) (fun q => kf (fun z => q ((zI_eq h).mpr z)) ls H locs h1 h2 h3 h4)
theorem r_if_eq (C : CX g own cc nL ret A p s m args meth c) {off : Int} {x : Int} (tgt : Nat) (hd : decode cc pc = .ok (.ifCond .eq off, 3)) (ht : (pc : Int) + off = (tgt : Int)) (h : -2147483648 ≤ x ∧ x ≤ 2147483647) (kt : x = 0 → RUN g nL p l e R s m args below meth c A cells slots Q ws tgt lv st) (kf : ¬ (x = 0) → RUN g nL p l e R s m args below meth c A cells slots Q ws (pc + 3) lv st) : RUN g nL p l e R s m args below meth c A cells slots Q ws pc lv (vi x :: st) :=
  fun ls H locs h1 h2 h3 h4 => lv_if_eq C.1 C.2.1 hd ht (fun q => kt ((zI_eq ⟨h.1, h.2, by decide, by decide⟩).mp q) ls H locs h1 h2 h3 h4) (fun q => kf (fun z => q ((zI_eq ⟨h.1, h.2, by decide, by decide⟩).mpr z)) ls H locs h1 h2 h3 h4)
theorem r_icmp_ne (C : CX g own cc nL ret A p s m args meth c) {off : Int} {x y : Int} (tgt : Nat) (hd : decode cc pc = .ok (.if_icmp .ne off, 3)) (ht : (pc : Int) + off = (tgt : Int)) (h : -2147483648 ≤ x ∧ x ≤ 2147483647 ∧ -2147483648 ≤ y ∧ y ≤ 2147483647) (kt : ¬ x = y → RUN g nL p l e R s m args below meth c A cells slots Q ws tgt lv st) (kf : x = y → RUN g nL p l e R s m args below meth c A cells slots Q ws (pc + 3) lv st) : RUN g nL p l e R s m args below meth c A cells slots Q ws pc lv (vi y :: vi x :: st) :=
  fun ls H locs h1 h2 h3 h4 => lv_icmp_ne C.1 C.2.1 hd ht (fun q => kt (fun z => q ((zI_eq h).mpr z)) ls H locs h1 h2 h3 h4) (fun q => kf ((zI_eq h).mp q) ls H locs h1 h2 h3 h4)
theorem r_if_ne (C : CX g own cc nL ret A p s m args meth c) {off : Int} {x : Int} (tgt : Nat) (hd : decode cc pc = .ok (.ifCond .ne off, 3)) (ht : (pc : Int) + off = (tgt : Int)) (h : -2147483648 ≤ x ∧ x ≤ 2147483647) (kt : ¬ x = 0 → RUN g nL p l e R s m args below meth c A cells slots Q ws tgt lv st) (kf : x = 0 → RUN g nL p l e R s m args below meth c A cells slots Q ws (pc + 3) lv st) : RUN g nL p l e R s m args below meth c A cells slots Q ws pc lv (vi x :: st) :=
  fun ls H locs h1 h2 h3 h4 => lv_if_ne C.1 C.2.1 hd ht (fun q => kt (fun z => q ((zI_eq ⟨h.1, h.2, by decide, by decide⟩).mpr z)) ls H locs h1 h2 h3 h4) (fun q => kf ((zI_eq ⟨h.1, h.2, by decide, by decide⟩).mp q) ls H locs h1 h2 h3 h4)
theorem r_icmp_lt (C : CX g own cc nL ret A p s m args meth c) {off : Int} {x y : Int} (tgt : Nat) (hd : decode cc pc = .ok (.if_icmp .lt off, 3)) (ht : (pc : Int) + off = (tgt : Int)) (h : -2147483648 ≤ x ∧ x ≤ 2147483647 ∧ -2147483648 ≤ y ∧ y ≤ 2147483647) (kt : x < y → RUN g nL p l e R s m args below meth c A cells slots Q ws tgt lv st) (kf : ¬ (x < y) → RUN g nL p l e R s m args below meth c A cells slots Q ws (pc + 3) lv st) : RUN g nL p l e R s m args below meth c A cells slots Q ws pc lv (vi y :: vi x :: st) :=
  fun ls H locs h1 h2 h3 h4 => lv_icmp_lt C.1 C.2.1 hd ht (fun q => kt ((zI_lt h).mp q) ls H locs h1 h2 h3 h4) (fun q => kf (fun z => q ((zI_lt h).mpr z)) ls H locs h1 h2 h3 h4)
theorem r_if_lt (C : CX g own cc nL ret A p s m args meth c) {off : Int} {x : Int} (tgt : Nat) (hd : decode cc pc = .ok (.ifCond .lt off, 3)) (ht : (pc : Int) + off = (tgt : Int)) (h : -2147483648 ≤ x ∧ x ≤ 2147483647) (kt : x < 0 → RUN g nL p l e R s m args below meth c A cells slots Q ws tgt lv st) (kf : ¬ (x < 0) → RUN g nL p l e R s m args below meth c A cells slots Q ws (pc + 3) lv st) : RUN g nL p l e R s m args below meth c A cells slots Q ws pc lv (vi x :: st) :=
  fun ls H locs h1 h2 h3 h4 => lv_if_lt C.1 C.2.1 hd ht (fun q => kt ((zI_lt ⟨h.1, h.2, by decide, by decide⟩).mp q) ls H locs h1 h2 h3 h4) (fun q => kf (fun z => q ((zI_lt ⟨h.1, h.2, by decide, by decide⟩).mpr z)) ls H locs h1 h2 h3 h4)
theorem r_icmp_ge (C : CX g own cc nL ret A p s m args meth c) {off : Int} {x y : Int} (tgt : Nat) (hd : decode cc pc = .ok (.if_icmp .ge off, 3)) (ht : (pc : Int) + off = (tgt : Int)) (h : -2147483648 ≤ x ∧ x ≤ 2147483647 ∧ -2147483648 ≤ y ∧ y ≤ 2147483647) (kt : y ≤ x → RUN g nL p l e R s m args below meth c A cells slots Q ws tgt lv st) (kf : ¬ (y ≤ x) → RUN g nL p l e R s m args below meth c A cells slots Q ws (pc + 3) lv st) : RUN g nL p l e R s m args below meth c A cells slots Q ws pc lv (vi y :: vi x :: st) :=
  fun ls H locs h1 h2 h3 h4 => lv_icmp_ge C.1 C.2.1 hd ht (fun q => kt ((zI_le ⟨h.2.2.1, h.2.2.2, h.1, h.2.1⟩).mp q) ls H locs h1 h2 h3 h4) (fun q => kf (fun z => q ((zI_le ⟨h.2.2.1, h.2.2.2, h.1, h.2.1⟩).mpr z)) ls H locs h1 h2 h3 h4)
theorem r_if_ge (C : CX g own cc nL ret A p s m args meth c) {off : Int} {x : Int} (tgt : Nat) (hd : decode cc pc = .ok (.ifCond .ge off, 3)) (ht : (pc : Int) + off = (tgt : Int)) (h : -2147483648 ≤ x ∧ x ≤ 2147483647) (kt : 0 ≤ x → RUN g nL p l e R s m args below meth c A cells slots Q ws tgt lv st) (kf : ¬ (0 ≤ x) → RUN g nL p l e R s m args below meth c A cells slots Q ws (pc + 3) lv st) : RUN g nL p l e R s m args below meth c A cells slots Q ws pc lv (vi x :: st) :=
  fun ls H locs h1 h2 h3 h4 => lv_if_ge C.1 C.2.1 hd ht (fun q => kt ((zI_le ⟨by decide, by decide, h.1, h.2⟩).mp q) ls H locs h1 h2 h3 h4) (fun q => kf (fun z => q ((zI_le ⟨by decide, by decide, h.1, h.2⟩).mpr z)) ls H locs h1 h2 h3 h4)
theorem r_icmp_gt (C : CX g own cc nL ret A p s m args meth c) {off : Int} {x y : Int} (tgt : Nat) (hd : decode cc pc = .ok (.if_icmp .gt off, 3)) (ht : (pc : Int) + off = (tgt : Int)) (h : -2147483648 ≤ x ∧ x ≤ 2147483647 ∧ -2147483648 ≤ y ∧ y ≤ 2147483647) (kt : y < x → RUN g nL p l e R s m args below meth c A cells slots Q ws tgt lv st) (kf : ¬ (y < x) → RUN g nL p l e R s m args below meth c A cells slots Q ws (pc + 3) lv st) : RUN g nL p l e R s m args below meth c A cells slots Q ws pc lv (vi y :: vi x :: st) :=
  fun ls H locs h1 h2 h3 h4 => lv_icmp_gt C.1 C.2.1 hd ht (fun q => kt ((zI_lt ⟨h.2.2.1, h.2.2.2, h.1, h.2.1⟩).mp q) ls H locs h1 h2 h3 h4) (fun q => kf (fun z => q ((zI_lt ⟨h.2.2.1, h.2.2.2, h.1, h.2.1⟩).mpr z)) ls H locs h1 h2 h3 h4)
theorem r_if_gt (C : CX g own cc nL ret A p s m args meth c) {off : Int} {x : Int} (tgt : Nat) (hd : decode cc pc = .ok (.ifCond .gt off, 3)) (ht : (pc : Int) + off = (tgt : Int)) (h : -2147483648 ≤ x ∧ x ≤ 2147483647) (kt : 0 < x → RUN g nL p l e R s m args below meth c A cells slots Q ws tgt lv st) (kf : ¬ (0 < x) → RUN g nL p l e R s m args below meth c A cells slots Q ws (pc + 3) lv st) : RUN g nL p l e R s m args below meth c A cells slots Q ws pc lv (vi x :: st) :=
  fun ls H locs h1 h2 h3 h4 => lv_if_gt C.1 C.2.1 hd ht (fun q => kt ((zI_lt ⟨by decide, by decide, h.1, h.2⟩).mp q) ls H locs h1 h2 h3 h4) (fun q => kf (fun z => q ((zI_lt ⟨by decide, by decide, h.1, h.2⟩).mpr z)) ls H locs h1 h2 h3 h4)
theorem r_icmp_le (C : CX g own cc nL ret A p s m args meth c) {off : Int} {x y : Int} (tgt : Nat) (hd : decode cc pc = .ok (.if_icmp .le off, 3)) (ht : (pc : Int) + off = (tgt : Int)) (h : -2147483648 ≤ x ∧ x ≤ 2147483647 ∧ -2147483648 ≤ y ∧ y ≤ 2147483647) (kt : x ≤ y → RUN g nL p l e R s m args below meth c A cells slots Q ws tgt lv st) (kf : ¬ (x ≤ y) → RUN g nL p l e R s m args below meth c A cells slots Q ws (pc + 3) lv st) : RUN g nL p l e R s m args below meth c A cells slots Q ws pc lv (vi y :: vi x :: st) :=
  fun ls H locs h1 h2 h3 h4 => lv_icmp_le C.1 C.2.1 hd ht (fun q => kt ((zI_le h).mp q) ls H locs h1 h2 h3 h4) (fun q => kf (fun z => q ((zI_le h).mpr z)) ls H locs h1 h2 h3 h4)
theorem r_if_le (C : CX g own cc nL ret A p s m args meth c) {off : Int} {x : Int} (tgt : Nat) (hd : decode cc pc = .ok (.ifCond .le off, 3)) (ht : (pc : Int) + off = (tgt : Int)) (h : -2147483648 ≤ x ∧ x ≤ 2147483647) (kt : x ≤ 0 → RUN g nL p l e R s m args below meth c A cells slots Q ws tgt lv st) (kf : ¬ (x ≤ 0) → RUN g nL p l e R s m args below meth c A cells slots Q ws (pc + 3) lv st) : RUN g nL p l e R s m args below meth c A cells slots Q ws pc lv (vi x :: st) :=
  fun ls H locs h1 h2 h3 h4 => lv_if_le C.1 C.2.1 hd ht (fun q => kt ((zI_le ⟨h.1, h.2, by decide, by decide⟩).mp q) ls H locs h1 h2 h3 h4) (fun q => kf (fun z => q ((zI_le ⟨h.1, h.2, by decide, by decide⟩).mpr z)) ls H locs h1 h2 h3 h4)
theorem r_iald (C : CX g own cc nL ret A p s m args meth c) {a n : Nat} {f : Int → Int} {i : Int} (hd : decode cc pc = .ok (.iaload, 1)) (q0 : Nat) (hq : ws[q0]? = some (a, aI g n f)) (hn : Nat.ble n 1000000 = true) (h : 0 ≤ i ∧ i < n) (k : RUN g nL p l e R s m args below meth c A cells slots Q ws (pc + 1) lv (vi (f i) :: st)) : RUN g nL p l e R s m args below meth c A cells slots Q ws pc lv (vi i :: .ref a :: st) :=
  fun ls H locs h1 h2 h3 h4 => by
  have k1 := k ls H locs h1 h2 h3 h4
  rw [show vi (f i) = .int (zR f (zI i).toNatClampNeg) from congrArg Value.int (zR_at hn h).symm] at k1
  exact va_iald C.1 C.2.1 C.2.2.2.2.2.1 h2 q0 1 hq rfl (zI_in hn h) hd k1
theorem r_cald (C : CX g own cc nL ret A p s m args meth c) {a n : Nat} {f : Int → Int} {i : Int} (hd : decode cc pc = .ok (.caload, 1)) (q0 : Nat) (hq : ws[q0]? = some (a, aC g n f)) (hn : Nat.ble n 1000000 = true) (h : 0 ≤ i ∧ i < n) (k : RUN g nL p l e R s m args below meth c A cells slots Q ws (pc + 1) lv (vi (f i) :: st)) : RUN g nL p l e R s m args below meth c A cells slots Q ws pc lv (vi i :: .ref a :: st) :=
  fun ls H locs h1 h2 h3 h4 => by
  have k1 := k ls H locs h1 h2 h3 h4
  rw [show vi (f i) = .int (zR f (zI i).toNatClampNeg) from congrArg Value.int (zR_at hn h).symm] at k1
  exact va_cald C.1 C.2.1 C.2.2.2.2.2.1 h2 q0 0 hq rfl (zI_in hn h) hd k1
theorem r_zald (C : CX g own cc nL ret A p s m args meth c) {a n : Nat} {f : Int → Int} {i : Int} (hd : decode cc pc = .ok (.baload, 1)) (q0 : Nat) (hq : ws[q0]? = some (a, aZ g n f)) (hn : Nat.ble n 1000000 = true) (h : 0 ≤ i ∧ i < n) (k : RUN g nL p l e R s m args below meth c A cells slots Q ws (pc + 1) lv (vi (f i) :: st)) : RUN g nL p l e R s m args below meth c A cells slots Q ws pc lv (vi i :: .ref a :: st) :=
  fun ls H locs h1 h2 h3 h4 => by
  have k1 := k ls H locs h1 h2 h3 h4
  rw [show vi (f i) = .int (zR f (zI i).toNatClampNeg) from congrArg Value.int (zR_at hn h).symm] at k1
  exact va_zald C.1 C.2.1 C.2.2.2.2.2.1 h2 q0 2 hq rfl (zI_in hn h) hd k1
theorem r_iast (C : CX g own cc nL ret A p s m args meth c) {a n : Nat} {f : Int → Int} {i v : Int} {ws' : va_W} (hd : decode cc pc = .ok (.iastore, 1)) (q0 : Nat) (hq : ws[q0]? = some (a, aI g n f)) (hn : Nat.ble n 1000000 = true) (h : 0 ≤ i ∧ i < n) (hw : ws.set q0 (a, aI g n (zU f i v)) = ws') (k : RUN g nL p l e R s m args below meth c A cells slots Q ws' (pc + 1) lv st) : RUN g nL p l e R s m args below meth c A cells slots Q ws pc lv (vi v :: vi i :: .ref a :: st) :=
  fun ls H locs h1 h2 h3 h4 => by
  subst hw
  refine va_iast C.1 C.2.1 C.2.2.2.2.2.1 h2 h3 h4 q0 1 hq rfl (zI_in hn h) hd (fun H1 locs1 h2 h3 h4 => ?_)
  rw [zR_up hn h] at h2 h3
  exact k ls H1 locs1 h1 h2 h3 h4
theorem r_cast (C : CX g own cc nL ret A p s m args meth c) {a n : Nat} {f : Int → Int} {i v : Int} {ws' : va_W} (hd : decode cc pc = .ok (.castore, 1)) (q0 : Nat) (hq : ws[q0]? = some (a, aC g n f)) (hn : Nat.ble n 1000000 = true) (h : 0 ≤ i ∧ i < n) (hv : vp_nar .char (zI v) = zI v) (hw : ws.set q0 (a, aC g n (zU f i v)) = ws') (k : RUN g nL p l e R s m args below meth c A cells slots Q ws' (pc + 1) lv st) : RUN g nL p l e R s m args below meth c A cells slots Q ws pc lv (vi v :: vi i :: .ref a :: st) :=
  fun ls H locs h1 h2 h3 h4 => by
  subst hw
  refine va_cast C.1 C.2.1 C.2.2.2.2.2.1 h2 h3 h4 q0 0 hq rfl (zI_in hn h) hd (fun H1 locs1 h2 h3 h4 => ?_)
  rw [hv, zR_up hn h] at h2 h3
  exact k ls H1 locs1 h1 h2 h3 h4
theorem r_zast (C : CX g own cc nL ret A p s m args meth c) {a n : Nat} {f : Int → Int} {i v : Int} {ws' : va_W} (hd : decode cc pc = .ok (.bastore, 1)) (q0 : Nat) (hq : ws[q0]? = some (a, aZ g n f)) (hn : Nat.ble n 1000000 = true) (h : 0 ≤ i ∧ i < n) (hv : vp_nar .boolean (zI v) = zI v) (hw : ws.set q0 (a, aZ g n (zU f i v)) = ws') (k : RUN g nL p l e R s m args below meth c A cells slots Q ws' (pc + 1) lv st) : RUN g nL p l e R s m args below meth c A cells slots Q ws pc lv (vi v :: vi i :: .ref a :: st) :=
  fun ls H locs h1 h2 h3 h4 => by
  subst hw
  refine va_zast C.1 C.2.1 C.2.2.2.2.2.1 h2 h3 h4 q0 2 hq rfl (zI_in hn h) hd (fun H1 locs1 h2 h3 h4 => ?_)
  rw [hv, zR_up hn h] at h2 h3
  exact k ls H1 locs1 h1 h2 h3 h4
theorem r_ilen (C : CX g own cc nL ret A p s m args meth c) {a n : Nat} {f : Int → Int} (hd : decode cc pc = .ok (.arraylength, 1)) (q0 : Nat) (hq : ws[q0]? = some (a, aI g n f)) (k : RUN g nL p l e R s m args below meth c A cells slots Q ws (pc + 1) lv (vi (n : Int) :: st)) : RUN g nL p l e R s m args below meth c A cells slots Q ws pc lv (.ref a :: st) :=
  fun ls H locs h1 h2 h3 h4 => va_alen C.1 C.2.1 C.2.2.2.2.2.1 h2 q0 1 (ty := .int) hq rfl (zI_nat n) hd (k ls H locs h1 h2 h3 h4)
theorem r_clen (C : CX g own cc nL ret A p s m args meth c) {a n : Nat} {f : Int → Int} (hd : decode cc pc = .ok (.arraylength, 1)) (q0 : Nat) (hq : ws[q0]? = some (a, aC g n f)) (k : RUN g nL p l e R s m args below meth c A cells slots Q ws (pc + 1) lv (vi (n : Int) :: st)) : RUN g nL p l e R s m args below meth c A cells slots Q ws pc lv (.ref a :: st) :=
  fun ls H locs h1 h2 h3 h4 => va_alen C.1 C.2.1 C.2.2.2.2.2.1 h2 q0 0 (ty := .char) hq rfl (zI_nat n) hd (k ls H locs h1 h2 h3 h4)
theorem r_zlen (C : CX g own cc nL ret A p s m args meth c) {a n : Nat} {f : Int → Int} (hd : decode cc pc = .ok (.arraylength, 1)) (q0 : Nat) (hq : ws[q0]? = some (a, aZ g n f)) (k : RUN g nL p l e R s m args below meth c A cells slots Q ws (pc + 1) lv (vi (n : Int) :: st)) : RUN g nL p l e R s m args below meth c A cells slots Q ws pc lv (.ref a :: st) :=
  fun ls H locs h1 h2 h3 h4 => va_alen C.1 C.2.1 C.2.2.2.2.2.1 h2 q0 2 (ty := .boolean) hq rfl (zI_nat n) hd (k ls H locs h1 h2 h3 h4)
theorem r_aald (C : CX g own cc nL ret A p s m args meth c) {a n b : Nat} {f : Nat → Option Nat} {i : Int} (hd : decode cc pc = .ok (.aaload, 1)) (q0 : Nat) (hq : ws[q0]? = some (a, aQ g n f)) (hn : Nat.ble n 1000000 = true) (h : 0 ≤ i ∧ i < n) (hf : f i.toNat = some b) (k : RUN g nL p l e R s m args below meth c A cells slots Q ws (pc + 1) lv (.ref b :: st)) : RUN g nL p l e R s m args below meth c A cells slots Q ws pc lv (vi i :: .ref a :: st) :=
  fun ls H locs h1 h2 h3 h4 => by
  have hn2 := Nat.le_of_ble_eq_true hn
  have k1 := k ls H locs h1 h2 h3 h4
  rw [show Value.ref b = va_rf (f (zI i).toNatClampNeg) by rw [zI_cl (by omega), hf]; rfl] at k1
  exact va_aldq C.1 C.2.1 C.2.2.2.2.2.1 h2 q0 3 hq rfl (zI_in hn h) hd k1
theorem r_get (C : CX g own cc nL ret A p s m args meth c) {C' ref : String} {T : u_T} {N ci index a : Nat} {fs : List Value} {v : Value} (hin : ∀ w ∈ u_ws C' T N, w ∈ wsL_law) (hc : vwCl[ci]? = some (C', T, N)) (i : Nat) (hi : i < N) (hl : Cond.fieldLink own index ref (T i).2.1 (T i).2.2.1 ∈ wsL_law) (hr : (T i).1 = ref) (hd : decode cc pc = .ok (.getfield index, 3)) (q0 : Nat) (hq : ws[q0]? = some (a, oB ci fs)) (hv : fs[i]? = some v) (k : RUN g nL p l e R s m args below meth c A cells slots Q ws (pc + 3) lv (v :: st)) : RUN g nL p l e R s m args below meth c A cells slots Q ws pc lv (.ref a :: st) :=
  fun ls H locs h1 h2 h3 h4 => va_get C.1 C.2.1 C.2.2.2.2.1 hin C.2.2.2.1 C.2.2.2.2.2.1 h2 q0 hq hc i hi (C.2.2.2.2.1 _ hl) (fun x hx => hr ▸ hx) hv hd (k ls H locs h1 h2 h3 h4)
theorem r_getN (C : CX g own cc nL ret A p s m args meth c) {C' ref host : String} {T : u_T} {N ci index a : Nat} {fs : List Value} {v : Value} (hin : ∀ w ∈ u_ws C' T N, w ∈ wsL_law) (hc : vwCl[ci]? = some (C', T, N)) (i : Nat) (hi : i < N) (hl : (own, index, ref, (T i).2.1, (T i).2.2.1, host) ∈ nwF) (hr : (T i).1 = ref) (hd : decode cc pc = .ok (.getfield index, 3)) (q0 : Nat) (hq : ws[q0]? = some (a, oB ci fs)) (hv : fs[i]? = some v) (k : RUN g nL p l e R s m args below meth c A cells slots Q ws (pc + 3) lv (v :: st)) : RUN g nL p l e R s m args below meth c A cells slots Q ws pc lv (.ref a :: st) :=
  fun ls H locs h1 h2 h3 h4 => va_getN C.1 C.2.1 C.2.2.2.2.1 hin C.2.2.2.1 C.2.2.2.2.2.1 h2 q0 hq hc i hi (va_Nw.use rfl (C.2.2.2.2.2.2.1.1 _ hl)) (fun x hx => hr ▸ hx) hv hd (k ls H locs h1 h2 h3 h4)
theorem r_put (C : CX g own cc nL ret A p s m args meth c) {C' ref host : String} {T : u_T} {N ci index a : Nat} {fs : List Value} {v : Value} {ty : FieldType} {ws' : va_W} (hin : ∀ w ∈ u_ws C' T N, w ∈ wsL_law) (ty0 : Nat → FieldType) (hty : ∀ k, k < N → parseFieldDescriptor (T k).2.2.1 = some (ty0 k)) (hnm : ∀ a, a < N → ∀ b, b < N → a ≠ b → (T a).2.1 ≠ (T b).2.1) (hc : vwCl[ci]? = some (C', T, N)) (i : Nat) (hi : i < N) (hl : Cond.fieldLink own index ref (T i).2.1 (T i).2.2.1 ∈ wsL_law) (hr : (T i).1 = ref) (hf : (T i).2.2.2 = false) (ht : ty0 i = ty) (hd : decode cc pc = .ok (.putfield index, 3)) (q0 : Nat) (hq : ws[q0]? = some (a, oB ci fs)) (hlen : i < fs.length) (hna : narrow ty v = v) (hfi : fits ty v = true) (hw : ws.set q0 (a, oB ci (fs.set i v)) = ws') (k : RUN g nL p l e R s m args below meth c A cells slots Q ws' (pc + 3) lv st) : RUN g nL p l e R s m args below meth c A cells slots Q ws pc lv (v :: .ref a :: st) :=
  fun ls H locs h1 h2 h3 h4 => by
  subst hw
  exact va_put C.1 C.2.1 C.2.2.2.2.1 hin ty0 hty hnm C.2.2.2.1 C.2.2.2.2.2.1 h2 h3 h4 q0 hq hc i hi (C.2.2.2.2.1 _ hl) (fun x hx => hr ▸ hx) hf (by rw [hty i hi, ht]) hna hfi hlen hd (fun H1 locs1 h2 h3 h4 => k ls H1 locs1 h1 h2 h3 h4)
theorem r_putN (C : CX g own cc nL ret A p s m args meth c) {C' ref host : String} {T : u_T} {N ci index a : Nat} {fs : List Value} {v : Value} {ty : FieldType} {ws' : va_W} (hin : ∀ w ∈ u_ws C' T N, w ∈ wsL_law) (ty0 : Nat → FieldType) (hty : ∀ k, k < N → parseFieldDescriptor (T k).2.2.1 = some (ty0 k)) (hnm : ∀ a, a < N → ∀ b, b < N → a ≠ b → (T a).2.1 ≠ (T b).2.1) (hc : vwCl[ci]? = some (C', T, N)) (i : Nat) (hi : i < N) (hl : (own, index, ref, (T i).2.1, (T i).2.2.1, host) ∈ nwF) (hr : (T i).1 = ref) (hf : (T i).2.2.2 = false) (ht : ty0 i = ty) (hd : decode cc pc = .ok (.putfield index, 3)) (q0 : Nat) (hq : ws[q0]? = some (a, oB ci fs)) (hlen : i < fs.length) (hna : narrow ty v = v) (hfi : fits ty v = true) (hw : ws.set q0 (a, oB ci (fs.set i v)) = ws') (k : RUN g nL p l e R s m args below meth c A cells slots Q ws' (pc + 3) lv st) : RUN g nL p l e R s m args below meth c A cells slots Q ws pc lv (v :: .ref a :: st) :=
  fun ls H locs h1 h2 h3 h4 => by
  subst hw
  exact va_putN C.1 C.2.1 C.2.2.2.2.1 hin ty0 hty hnm C.2.2.2.1 C.2.2.2.2.2.1 h2 h3 h4 q0 hq hc i hi (va_Nw.use rfl (C.2.2.2.2.2.2.1.1 _ hl)) (fun x hx => hr ▸ hx) hf (by rw [hty i hi, ht]) hna hfi hlen hd (fun H1 locs1 h2 h3 h4 => k ls H1 locs1 h1 h2 h3 h4)
theorem r_putF (C : CX g own cc nL ret A p s m args meth c) {C' ref host : String} {T : u_T} {N ci index a : Nat} {fs : List Value} {v : Value} {ty : FieldType} {ws' : va_W} (hin : ∀ w ∈ u_ws C' T N, w ∈ wsL_law) (ty0 : Nat → FieldType) (hty : ∀ k, k < N → parseFieldDescriptor (T k).2.2.1 = some (ty0 k)) (hnm : ∀ a, a < N → ∀ b, b < N → a ≠ b → (T a).2.1 ≠ (T b).2.1) (hc : vwCl[ci]? = some (C', T, N)) (i : Nat) (hi : i < N) (hl : Cond.fieldLink own index ref (T i).2.1 (T i).2.2.1 ∈ wsL_law) (hr : (T i).1 = ref) (hf : (T i).2.2.2 = true) (hin2 : meth.name = "<init>") (hdc : (T i).1 = own) (ht : ty0 i = ty) (hd : decode cc pc = .ok (.putfield index, 3)) (q0 : Nat) (hq : ws[q0]? = some (a, oB ci fs)) (hlen : i < fs.length) (hna : narrow ty v = v) (hfi : fits ty v = true) (hw : ws.set q0 (a, oB ci (fs.set i v)) = ws') (k : RUN g nL p l e R s m args below meth c A cells slots Q ws' (pc + 3) lv st) : RUN g nL p l e R s m args below meth c A cells slots Q ws pc lv (v :: .ref a :: st) :=
  fun ls H locs h1 h2 h3 h4 => by
  subst hw
  exact va_putF C.1 C.2.1 C.2.2.2.2.1 hin ty0 hty hnm C.2.2.2.1 C.2.2.2.2.2.1 h2 h3 h4 q0 hq hc i hi (C.2.2.2.2.1 _ hl) (fun x hx => hr ▸ hx) hf hin2 hdc (by rw [hty i hi, ht]) hna hfi hlen hd (fun H1 locs1 h2 h3 h4 => k ls H1 locs1 h1 h2 h3 h4)
theorem r_top {x : Int} (k : ∀ y : Int, y = x → RUN g nL p l e R s m args below meth c A cells slots Q ws pc lv (vi y :: st)) : RUN g nL p l e R s m args below meth c A cells slots Q ws pc lv (vi x :: st) := k x rfl
theorem r_eq {x y : Int} (h : x = y) (k : RUN g nL p l e R s m args below meth c A cells slots Q ws pc lv (vi y :: st)) : RUN g nL p l e R s m args below meth c A cells slots Q ws pc lv (vi x :: st) := h ▸ k
theorem r_lv {lv' : List (Nat × Value)} (ks : List Nat) (h : lv_pick lv ks = lv') (k : RUN g nL p l e R s m args below meth c A cells slots Q ws pc lv' st) : RUN g nL p l e R s m args below meth c A cells slots Q ws pc lv st := fun ls H locs h1 h2 h3 h4 => k ls H locs (lv_sub h1 ks h) h2 h3 h4
theorem r_ws {ws' : va_W} (h : ws = ws') (k : RUN g nL p l e R s m args below meth c A cells slots Q ws' pc lv st) : RUN g nL p l e R s m args below meth c A cells slots Q ws pc lv st := h ▸ k
theorem r_st {st' : List Value} (h : st = st') (k : RUN g nL p l e R s m args below meth c A cells slots Q ws pc lv st') : RUN g nL p l e R s m args below meth c A cells slots Q ws pc lv st := h ▸ k
theorem r_mmax (C : CX g own cc nL ret A p s m args meth c) {x y : Int} {index : Nat} (hl : Cond.methodLink own index Lib.Math.max.name ∈ wsL_law) (hd : decode cc pc = .ok (.invokestatic index, 3)) (hR : Nat.ble 1 R.frames = true ∧ Nat.ble ((st.map fun v => v.category).sum + 13) R.locals = true ∧ Nat.ble cells R.cells = true ∧ Nat.ble slots R.slots = true) (h : -2147483648 ≤ x ∧ x ≤ 2147483647 ∧ -2147483648 ≤ y ∧ y ≤ 2147483647) (k : RUN g nL p l e R s m args below meth c A cells slots Q ws (pc + 3) lv (vi (max x y) :: st)) : RUN g nL p l e R s m args below meth c A cells slots Q ws pc lv (vi y :: vi x :: st) :=
  fun ls H locs h1 h2 h3 h4 => by
  have k1 := k ls H locs h1 h2 h3 h4
  have he : zI (max x y) = (if zI x < zI y then zI y else zI x) := by
    rw [show max x y = if x < y then y else x by omega]
    by_cases q : x < y
    · rw [if_pos q, if_pos ((zI_lt h).mpr q)]
    · rw [if_neg q, if_neg (fun z => q ((zI_lt h).mp z))]
  rw [show vi (max x y) = .int (if zI x < zI y then zI y else zI x) from congrArg Value.int he] at k1
  exact va_mmax C.1 C.2.1 (by rw [C.2.2.1]; exact h1.1.symm) C.2.2.2.1 (C.2.2.2.2.1 _ hl) (C.2.2.2.2.1 _ qs_max) (C.2.2.2.2.1 _ qs_Math) (C.2.2.2.2.1 _ qc_max) (Nat.le_of_ble_eq_true hR.1) (Nat.le_of_ble_eq_true hR.2.1) (Nat.le_of_ble_eq_true hR.2.2.1) (Nat.le_of_ble_eq_true hR.2.2.2) hd k1
theorem r_mmin (C : CX g own cc nL ret A p s m args meth c) {x y : Int} {index : Nat} (hl : Cond.methodLink own index Lib.Math.min.name ∈ wsL_law) (hd : decode cc pc = .ok (.invokestatic index, 3)) (hR : Nat.ble 1 R.frames = true ∧ Nat.ble ((st.map fun v => v.category).sum + 13) R.locals = true ∧ Nat.ble cells R.cells = true ∧ Nat.ble slots R.slots = true) (h : -2147483648 ≤ x ∧ x ≤ 2147483647 ∧ -2147483648 ≤ y ∧ y ≤ 2147483647) (k : RUN g nL p l e R s m args below meth c A cells slots Q ws (pc + 3) lv (vi (min x y) :: st)) : RUN g nL p l e R s m args below meth c A cells slots Q ws pc lv (vi y :: vi x :: st) :=
  fun ls H locs h1 h2 h3 h4 => by
  have k1 := k ls H locs h1 h2 h3 h4
  have he : zI (min x y) = (if zI y < zI x then zI y else zI x) := by
    rw [show min x y = if y < x then y else x by omega]
    by_cases q : y < x
    · rw [if_pos q, if_pos ((zI_lt ⟨h.2.2.1, h.2.2.2, h.1, h.2.1⟩).mpr q)]
    · rw [if_neg q, if_neg (fun z => q ((zI_lt ⟨h.2.2.1, h.2.2.2, h.1, h.2.1⟩).mp z))]
  rw [show vi (min x y) = .int (if zI y < zI x then zI y else zI x) from congrArg Value.int he] at k1
  exact va_mmin C.1 C.2.1 (by rw [C.2.2.1]; exact h1.1.symm) C.2.2.2.1 (C.2.2.2.2.1 _ hl) (C.2.2.2.2.1 _ qs_min) (C.2.2.2.2.1 _ qs_Math) (C.2.2.2.2.1 _ qc_min) (Nat.le_of_ble_eq_true hR.1) (Nat.le_of_ble_eq_true hR.2.1) (Nat.le_of_ble_eq_true hR.2.2.1) (Nat.le_of_ble_eq_true hR.2.2.2) hd k1
theorem r_mabs (C : CX g own cc nL ret A p s m args meth c) {x : Int} {index : Nat} (hl : Cond.methodLink own index Lib.Math.abs.name ∈ wsL_law) (hd : decode cc pc = .ok (.invokestatic index, 3)) (hR : Nat.ble 1 R.frames = true ∧ Nat.ble ((st.map fun v => v.category).sum + 13) R.locals = true ∧ Nat.ble cells R.cells = true ∧ Nat.ble slots R.slots = true) (h : -2147483648 ≤ x ∧ x ≤ 2147483647) (k : RUN g nL p l e R s m args below meth c A cells slots Q ws (pc + 3) lv (vi (if 0 ≤ x then x else -x) :: st)) : RUN g nL p l e R s m args below meth c A cells slots Q ws pc lv (vi x :: st) :=
  fun ls H locs h1 h2 h3 h4 => by
  have k1 := k ls H locs h1 h2 h3 h4
  have he : zI (if 0 ≤ x then x else -x) = (if 0 ≤ zI x then zI x else 0 - zI x) := by
    show _ = if zI 0 ≤ zI x then zI x else zI 0 - zI x
    by_cases q : 0 ≤ x
    · rw [if_pos q, if_pos ((zI_le (x := 0) ⟨by decide, by decide, h.1, h.2⟩).mpr q)]
    · rw [if_neg q, if_neg (fun z => q ((zI_le (x := 0) ⟨by decide, by decide, h.1, h.2⟩).mp z)), zI_sub, Int.zero_sub]
  rw [show vi (if 0 ≤ x then x else -x) = .int (if 0 ≤ zI x then zI x else 0 - zI x) from congrArg Value.int he] at k1
  exact va_mabs C.1 C.2.1 (by rw [C.2.2.1]; exact h1.1.symm) C.2.2.2.1 (C.2.2.2.2.1 _ hl) (C.2.2.2.2.1 _ qs_abs) (C.2.2.2.2.1 _ qs_Math) (C.2.2.2.2.1 _ qc_abs) (Nat.le_of_ble_eq_true hR.1) (Nat.le_of_ble_eq_true hR.2.1) (Nat.le_of_ble_eq_true hR.2.2.1) (Nat.le_of_ble_eq_true hR.2.2.2) hd k1
end
end
section
/-! ===== calls: the words of a call's site, the callee's contract, what comes back ===== -/
def KV (own : String) (idx : Nat) (C' : String) (y : MethodName) (bytes : ByteArray) (maxL : Nat) (ret : Option FieldType) (n : Nat) : Prop :=
  Cond.methodLink own idx y ∈ wsL_law ∧ Cond.instanceMethod y ∈ wsL_law ∧ Cond.selects C' y y ∈ wsL_law ∧ Cond.initialized C' ∈ wsL_law ∧ Cond.code y bytes maxL ret ∈ wsL_law ∧ (y.cls = C' ∧ y.cls ≠ "java/lang/invoke/MethodHandle" ∧ y.cls ≠ "java/lang/invoke/VarHandle" ∧ (parseMethodDescriptor y.desc).map (fun d => d.parameters.length) = some n)
def KS (own : String) (idx : Nat) (y : MethodName) (bytes : ByteArray) (maxL : Nat) (ret : Option FieldType) (n : Nat) : Prop :=
  Cond.methodLink own idx y ∈ wsL_law ∧ Cond.static y ∈ wsL_law ∧ Cond.initialized y.cls ∈ wsL_law ∧ Cond.code y bytes maxL ret ∈ wsL_law ∧ (y.cls ≠ "java/lang/invoke/MethodHandle" ∧ y.cls ≠ "java/lang/invoke/VarHandle" ∧ (parseMethodDescriptor y.desc).map (fun d => d.parameters.length) = some n)
def KN (own : String) (idx : Nat) (host : String) (y : MethodName) (bytes : ByteArray) (maxL : Nat) (ret : Option FieldType) (n : Nat) : Prop :=
  (own, idx, y, host) ∈ nwM ∧ Cond.static y ∈ wsL_law ∧ Cond.initialized y.cls ∈ wsL_law ∧ Cond.code y bytes maxL ret ∈ wsL_law ∧ (y.cls ≠ "java/lang/invoke/MethodHandle" ∧ y.cls ≠ "java/lang/invoke/VarHandle" ∧ (parseMethodDescriptor y.desc).map (fun d => d.parameters.length) = some n)
theorem wsL_all : ∀ w ∈ wsL_law, (w.onTables && w.keeps) = true ∨ ∃ ty, w = .arrayClass ty := fun w h => good_of_word (List.all_eq_true.mp wsL_good w h)
theorem good_c {y : MethodName} {bytes : ByteArray} {maxL : Nat} {ret : Option FieldType} (h : Cond.code y bytes maxL ret ∈ wsL_law) : GoodIn wsL_law (Cond.code y bytes maxL ret :: wsL_law) := fun w hw => by
  rcases List.mem_cons.mp hw with h1 | h1
  · exact h1 ▸ ⟨h, wsL_all _ h⟩
  · exact ⟨h1, wsL_all _ h1⟩
theorem good_V {own C' : String} {idx : Nat} {y : MethodName} {bytes : ByteArray} {maxL n : Nat} {ret : Option FieldType} (h : KV own idx C' y bytes maxL ret n) : GoodIn wsL_law (wsV own idx C' y (Cond.code y bytes maxL ret :: wsL_law)) := fun w hw => by
  rcases List.mem_append.mp hw with h1 | h1
  · simp only [List.mem_cons, List.not_mem_nil, or_false] at h1
    rcases h1 with h1 | h1 | h1 | h1
    · exact h1 ▸ ⟨h.1, wsL_all _ h.1⟩
    · exact h1 ▸ ⟨h.2.1, wsL_all _ h.2.1⟩
    · exact h1 ▸ ⟨h.2.2.1, wsL_all _ h.2.2.1⟩
    · exact h1 ▸ ⟨h.2.2.2.1, wsL_all _ h.2.2.2.1⟩
  · exact good_c h.2.2.2.2.1 w h1
theorem good_S {own : String} {idx : Nat} {y : MethodName} {bytes : ByteArray} {maxL n : Nat} {ret : Option FieldType} (h : KS own idx y bytes maxL ret n) : GoodIn wsL_law (va_wsS own idx y (Cond.code y bytes maxL ret :: wsL_law)) := fun w hw => by
  rcases List.mem_append.mp hw with h1 | h1
  · simp only [List.mem_cons, List.not_mem_nil, or_false] at h1
    rcases h1 with h1 | h1 | h1
    · exact h1 ▸ ⟨h.1, wsL_all _ h.1⟩
    · exact h1 ▸ ⟨h.2.1, wsL_all _ h.2.1⟩
    · exact h1 ▸ ⟨h.2.2.1, wsL_all _ h.2.2.1⟩
  · exact good_c h.2.2.2.1 w h1
/-- the room that a callee takes, in the caller's -/
def RM (rm R : Room) (maxL : Nat) (rest : List Value) : Bool := Nat.ble (rm.frames + 1) R.frames && Nat.ble (8 + (maxL + 11) + rm.locals) R.locals && Nat.beq rm.cells 0 && Nat.beq rm.slots 0 && Nat.ble ((rest.map fun v => v.category).sum) 8
section
variable {g : Gx} {own : String} {cc : ByteArray} {nL : Nat} {ret : Option FieldType} {p : Program} {l : Launch} {e : Env} {R : Room} {s : State} {m : MethodId} {args : Array Value} {below : List Frame} {meth : Method} {c : Code} {A : Nat → Prop} {cells slots : Nat} {Q : State → Prop} {ws : va_W} {pc : Nat} {lv : List (Nat × Value)} {rest : List Value}
theorem pre_call {H : Heap} {locs : List Loc} {wc : va_W} {av : List Value} (C : CX g own cc nL ret A p s m args meth c) (h2 : va_P g.1 vwCl ws H) (h3 : va_D A ws) (h4 : va_S A s.heap H locs) (isC : List Nat) (hC : isC.map (fun i => ws[i]?) = wc.map some) (hnd : va_nd isC = true) :
    (∀ q, va_A wc H.size q → A q) ∧ ∀ U : State, U.heap = H → s.WarmedH U.vm → PR g av wc H.size av.toArray U := by
  have hF := va_free h3 h4 C.2.2.2.2.2.2.2.2.2.1 isC hC
  refine ⟨hF, fun U hU hW => ⟨rfl, by rw [hU], ?_, va_K.moved hW.alike C.2.2.2.2.2.1, (h3.sub isC hnd hC).weaken (fun _ _ _ _ => trivial), Nst.warm hW C.2.2.2.2.2.2.1, ?_⟩⟩
  · rw [hU]
    intro k q hq
    have hl : k < isC.length := by
      have : isC.length = wc.length := by simpa using congrArg List.length hC
      rw [this]; exact (List.getElem?_eq_some_iff.mp hq).1
    obtain ⟨q', h5, h6⟩ := map_some_get hC (List.getElem?_eq_getElem hl)
    rw [hq] at h5
    cases h5
    exact h2 _ _ h6
  · rw [hU]
    exact ((C.2.2.2.2.2.2.2.2.2.2.kept (fun a h5 h6 => h4.2.1 a h5 h6)).narrow hF).moved hW.alike
theorem aft_i {S : Type} {post : Int → S → Prop} {Wf : S → va_W} {wc : va_W} {ws' : S → va_W} {st0 : List Value} {a : Array Value} {ls : Array Slot} {H : Heap} {locs : List Loc} (h1 : lv_has ls nL lv) (h2 : va_P g.1 vwCl ws H) (h3 : va_D A ws) (h4 : va_S A s.heap H locs) (isC : List Nat) (hC : isC.map (fun i => ws[i]?) = wc.map some) (hF : ∀ q, va_A wc H.size q → A q)
    (hr : va_Run p l e R s m args below meth c H locs cells slots 0 0 (F0 m pc ls st0) rest (PI g post Wf wc H.size a) (va_A wc H.size)) (ha : ∀ u, (Wf u).map Prod.fst = wc.map Prod.fst) (hw : ∀ u, wput ws isC (Wf u) = ws' u)
    (k : ∀ (x : Int) (u : S), post x u → RUN g nL p l e R s m args below meth c A cells slots Q (ws' u) (pc + 3) lv (vi x :: rest)) : W p l e R s m args below meth c H locs cells slots Q (F0 m pc ls st0) := by
  refine va_calli hr h4 (fun q _ h => hF q h) hF (fun r u t H1 locs1 ht hvm hpo hB hz hk hS => ?_)
  obtain ⟨x, rfl, hpx⟩ := hpo
  obtain ⟨hP1, -⟩ := hB
  rw [ht] at hP1
  obtain ⟨h5, h6⟩ := wput_P h2 h3 hC (ha u) hk hP1
  rw [hw u] at h5 h6
  exact k x u hpx ls H1 locs1 h1 h5 h6 hS
theorem aft_v {S : Type} {post : S → Prop} {Wf : S → va_W} {wc : va_W} {ws' : S → va_W} {st0 : List Value} {a : Array Value} {ls : Array Slot} {H : Heap} {locs : List Loc} (h1 : lv_has ls nL lv) (h2 : va_P g.1 vwCl ws H) (h3 : va_D A ws) (h4 : va_S A s.heap H locs) (isC : List Nat) (hC : isC.map (fun i => ws[i]?) = wc.map some) (hF : ∀ q, va_A wc H.size q → A q)
    (hr : va_Run p l e R s m args below meth c H locs cells slots 0 0 (F0 m pc ls st0) rest (PV g post Wf wc H.size a) (va_A wc H.size)) (ha : ∀ u, (Wf u).map Prod.fst = wc.map Prod.fst) (hw : ∀ u, wput ws isC (Wf u) = ws' u)
    (k : ∀ (u : S), post u → RUN g nL p l e R s m args below meth c A cells slots Q (ws' u) (pc + 3) lv rest) : W p l e R s m args below meth c H locs cells slots Q (F0 m pc ls st0) := by
  refine va_callv hr h4 (fun q _ h => hF q h) hF (fun u t H1 locs1 ht hvm hpo hB hz hk hS => ?_)
  obtain ⟨hP1, -⟩ := hB
  rw [ht] at hP1
  obtain ⟨h5, h6⟩ := wput_P h2 h3 hC (ha u) hk hP1
  rw [hw u] at h5 h6
  exact k u hpo ls H1 locs1 h1 h5 h6 hS
theorem aft_a {S : Type} {b : Nat} {post : S → Prop} {Wf : S → va_W} {wc : va_W} {ws' : S → va_W} {st0 : List Value} {a : Array Value} {ls : Array Slot} {H : Heap} {locs : List Loc} (h1 : lv_has ls nL lv) (h2 : va_P g.1 vwCl ws H) (h3 : va_D A ws) (h4 : va_S A s.heap H locs) (isC : List Nat) (hC : isC.map (fun i => ws[i]?) = wc.map some) (hF : ∀ q, va_A wc H.size q → A q)
    (hr : va_Run p l e R s m args below meth c H locs cells slots 0 0 (F0 m pc ls st0) rest (PA g b post Wf wc H.size a) (va_A wc H.size)) (ha : ∀ u, (Wf u).map Prod.fst = wc.map Prod.fst) (hw : ∀ u, wput ws isC (Wf u) = ws' u)
    (k : ∀ (u : S), post u → RUN g nL p l e R s m args below meth c A cells slots Q (ws' u) (pc + 3) lv (.ref b :: rest)) : W p l e R s m args below meth c H locs cells slots Q (F0 m pc ls st0) := by
  refine va_callr hr h4 (fun q _ h => hF q h) hF (fun u ra t H1 locs1 ht hvm hpo hB hz hk hS => ?_)
  obtain ⟨rfl, hP1, -⟩ := hB
  rw [ht] at hP1
  obtain ⟨h5, h6⟩ := wput_P h2 h3 hC (ha u) hk hP1
  rw [hw u] at h5 h6
  exact k u hpo ls H1 locs1 h1 h5 h6 hS
theorem run_V {y : MethodName} {C' : String} {idx maxL n b : Nat} {bytes : ByteArray} {ret' : Option FieldType} {rm : Room} {Qc : Nat → Array Value → State → Outcome → State → Prop} {As : List Value} {wc : va_W} {st0 : List Value} {ls : Array Slot} {H : Heap} {locs : List Loc} (C : CX g own cc nL ret A p s m args meth c) (h1 : lv_has ls nL lv) (h2 : va_P g.1 vwCl ws H) (h3 : va_D A ws) (h4 : va_S A s.heap H locs)
    (M : ∀ sz, Met l y (.code y bytes maxL ret' :: wsL_law) rm (PR g (.ref b :: As) wc sz) (Qc sz) 0 0 (va_A wc sz)) (kw : KV own idx C' y bytes maxL ret' n) (hd : decode cc pc = .ok (.invokevirtual idx, 3)) (hn : As.length = n) (hst : st0 = As.reverse ++ .ref b :: rest) (hR : RM rm R maxL rest = true) (hcs : Nat.ble cells R.cells = true ∧ Nat.ble slots R.slots = true) (q0 ci : Nat) {fs : List Value} {q : vw_C} (hq : ws[q0]? = some (b, oB ci fs)) (hci : vwCl[ci]? = some q) (hqc : q.1 = C') (isC : List Nat) (hC : isC.map (fun i => ws[i]?) = wc.map some) (hnd : va_nd isC = true) :
    va_Run p l e R s m args below meth c H locs cells slots 0 0 (F0 m pc ls st0) rest (Qc H.size (Value.ref b :: As).toArray) (va_A wc H.size) := by
  simp only [RM, Bool.and_eq_true] at hR
  obtain ⟨⟨⟨⟨hR1, hR2⟩, hR3⟩, hR4⟩, hR5⟩ := hR
  obtain ⟨-, hpre⟩ := pre_call (av := .ref b :: As) C h2 h3 h4 isC hC hnd
  refine va_runV ⟨C.1, C.2.1, C.2.2.1, C.2.2.2.1, C.2.2.2.2.1⟩ (M H.size) (cwV n C.2.2.2.2.1 (good_V kw) rfl (Nat.eq_of_beq_eq_true hR3) (Nat.eq_of_beq_eq_true hR4) kw.2.2.2.2.2 ⟨Nat.le_of_ble_eq_true hR1, Nat.le_of_ble_eq_true hR2⟩) ⟨PR.blind, ?_, hpre⟩ rfl hn h1.1 hst (lv_room (Nat.le_of_ble_eq_true hR5)) hd ⟨Nat.le_of_ble_eq_true hcs.1, Nat.le_of_ble_eq_true hcs.2⟩
  exact hqc ▸ va_recv C.2.2.2.2.2.1 h2 hci hq
theorem run_S {y : MethodName} {idx maxL n : Nat} {bytes : ByteArray} {ret' : Option FieldType} {rm : Room} {Qc : Nat → Array Value → State → Outcome → State → Prop} {As : List Value} {wc : va_W} {st0 : List Value} {ls : Array Slot} {H : Heap} {locs : List Loc} (C : CX g own cc nL ret A p s m args meth c) (h1 : lv_has ls nL lv) (h2 : va_P g.1 vwCl ws H) (h3 : va_D A ws) (h4 : va_S A s.heap H locs)
    (M : ∀ sz, Met l y (.code y bytes maxL ret' :: wsL_law) rm (PR g As wc sz) (Qc sz) 0 0 (va_A wc sz)) (kw : KS own idx y bytes maxL ret' n) (hd : decode cc pc = .ok (.invokestatic idx, 3)) (hn : As.length = n) (hst : st0 = As.reverse ++ rest) (hR : RM rm R maxL rest = true) (hcs : Nat.ble cells R.cells = true ∧ Nat.ble slots R.slots = true) (isC : List Nat) (hC : isC.map (fun i => ws[i]?) = wc.map some) (hnd : va_nd isC = true) :
    va_Run p l e R s m args below meth c H locs cells slots 0 0 (F0 m pc ls st0) rest (Qc H.size As.toArray) (va_A wc H.size) := by
  simp only [RM, Bool.and_eq_true] at hR
  obtain ⟨⟨⟨⟨hR1, hR2⟩, hR3⟩, hR4⟩, hR5⟩ := hR
  obtain ⟨-, hpre⟩ := pre_call (av := As) C h2 h3 h4 isC hC hnd
  exact va_runS ⟨C.1, C.2.1, C.2.2.1, C.2.2.2.1, C.2.2.2.2.1⟩ (M H.size) (va_cwS n C.2.2.2.2.1 (good_S kw) rfl (Nat.eq_of_beq_eq_true hR3) (Nat.eq_of_beq_eq_true hR4) kw.2.2.2.2 ⟨Nat.le_of_ble_eq_true hR1, Nat.le_of_ble_eq_true hR2⟩) ⟨PR.blind, hpre⟩ rfl hn h1.1 hst (lv_room (Nat.le_of_ble_eq_true hR5)) hd ⟨Nat.le_of_ble_eq_true hcs.1, Nat.le_of_ble_eq_true hcs.2⟩
theorem run_N {y : MethodName} {host : String} {idx maxL n : Nat} {bytes : ByteArray} {ret' : Option FieldType} {rm : Room} {Qc : Nat → Array Value → State → Outcome → State → Prop} {As : List Value} {wc : va_W} {st0 : List Value} {ls : Array Slot} {H : Heap} {locs : List Loc} (C : CX g own cc nL ret A p s m args meth c) (h1 : lv_has ls nL lv) (h2 : va_P g.1 vwCl ws H) (h3 : va_D A ws) (h4 : va_S A s.heap H locs)
    (M : ∀ sz, Met l y (.code y bytes maxL ret' :: wsL_law) rm (PR g As wc sz) (Qc sz) 0 0 (va_A wc sz)) (kw : KN own idx host y bytes maxL ret' n) (hd : decode cc pc = .ok (.invokestatic idx, 3)) (hn : As.length = n) (hst : st0 = As.reverse ++ rest) (hR : RM rm R maxL rest = true) (hcs : Nat.ble cells R.cells = true ∧ Nat.ble slots R.slots = true) (isC : List Nat) (hC : isC.map (fun i => ws[i]?) = wc.map some) (hnd : va_nd isC = true) :
    va_Run p l e R s m args below meth c H locs cells slots 0 0 (F0 m pc ls st0) rest (Qc H.size As.toArray) (va_A wc H.size) := by
  simp only [RM, Bool.and_eq_true] at hR
  obtain ⟨⟨⟨⟨hR1, hR2⟩, hR3⟩, hR4⟩, hR5⟩ := hR
  obtain ⟨-, hpre⟩ := pre_call (av := As) C h2 h3 h4 isC hC hnd
  exact va_runSN (host := host) ⟨C.1, C.2.1, C.2.2.1, C.2.2.2.1, C.2.2.2.2.1⟩ (M H.size) ⟨va_cnB n C.2.2.2.2.1 (good_c kw.2.2.2.1) rfl (Nat.eq_of_beq_eq_true hR3) (Nat.eq_of_beq_eq_true hR4) (C.2.2.2.2.2.2.1.2 _ kw.1) (C.2.2.2.2.1 _ kw.2.2.1) kw.2.2.2.2 ⟨Nat.le_of_ble_eq_true hR1, Nat.le_of_ble_eq_true hR2⟩, C.2.2.2.2.1 _ kw.2.1, trivial⟩ ⟨PR.blind, hpre⟩ rfl hn h1.1 hst (lv_room (Nat.le_of_ble_eq_true hR5)) hd ⟨Nat.le_of_ble_eq_true hcs.1, Nat.le_of_ble_eq_true hcs.2⟩
end
section
variable {g : Gx} {own : String} {cc : ByteArray} {nL : Nat} {ret : Option FieldType} {p : Program} {l : Launch} {e : Env} {R : Room} {s : State} {m : MethodId} {args : Array Value} {below : List Frame} {meth : Method} {c : Code} {A : Nat → Prop} {cells slots : Nat} {Q : State → Prop} {ws : va_W} {pc : Nat} {lv : List (Nat × Value)} {rest : List Value}
theorem k_Vi {y : MethodName} {C' : String} {idx maxL n b : Nat} {bytes : ByteArray} {ret' : Option FieldType} {rm : Room} {S : Type} {post : Int → S → Prop} {Wf : S → va_W} {As : List Value} {wc : va_W} {ws' : S → va_W} {st0 : List Value} (C : CX g own cc nL ret A p s m args meth c) (kw : KV own idx C' y bytes maxL ret' n) (M : ∀ sz, Met l y (.code y bytes maxL ret' :: wsL_law) rm (PR g (.ref b :: As) wc sz) (PI g post Wf wc sz) 0 0 (va_A wc sz)) (hd : decode cc pc = .ok (.invokevirtual idx, 3)) (hn : As.length = n) (hst : st0 = As.reverse ++ .ref b :: rest) (hR : RM rm R maxL rest = true) (hcs : Nat.ble cells R.cells = true ∧ Nat.ble slots R.slots = true) (q0 ci : Nat) {fs : List Value} {q : vw_C} (hq : ws[q0]? = some (b, oB ci fs)) (hci : vwCl[ci]? = some q) (hqc : q.1 = C') (isC : List Nat) (hC : isC.map (fun i => ws[i]?) = wc.map some) (hnd : va_nd isC = true) (ha : ∀ u, (Wf u).map Prod.fst = wc.map Prod.fst) (hw : ∀ u, wput ws isC (Wf u) = ws' u) (k : ∀ (x : Int) (u : S), post x u → RUN g nL p l e R s m args below meth c A cells slots Q (ws' u) (pc + 3) lv (vi x :: rest)) : RUN g nL p l e R s m args below meth c A cells slots Q ws pc lv st0 := fun ls H locs h1 h2 h3 h4 =>
  aft_i h1 h2 h3 h4 isC hC (pre_call (av := []) C h2 h3 h4 isC hC hnd).1 (run_V (Qc := fun sz => PI g post Wf wc sz) C h1 h2 h3 h4 M kw hd hn hst hR hcs q0 ci hq hci hqc isC hC hnd) ha hw k
theorem k_Vv {y : MethodName} {C' : String} {idx maxL n b : Nat} {bytes : ByteArray} {ret' : Option FieldType} {rm : Room} {S : Type} {post : S → Prop} {Wf : S → va_W} {As : List Value} {wc : va_W} {ws' : S → va_W} {st0 : List Value} (C : CX g own cc nL ret A p s m args meth c) (kw : KV own idx C' y bytes maxL ret' n) (M : ∀ sz, Met l y (.code y bytes maxL ret' :: wsL_law) rm (PR g (.ref b :: As) wc sz) (PV g post Wf wc sz) 0 0 (va_A wc sz)) (hd : decode cc pc = .ok (.invokevirtual idx, 3)) (hn : As.length = n) (hst : st0 = As.reverse ++ .ref b :: rest) (hR : RM rm R maxL rest = true) (hcs : Nat.ble cells R.cells = true ∧ Nat.ble slots R.slots = true) (q0 ci : Nat) {fs : List Value} {q : vw_C} (hq : ws[q0]? = some (b, oB ci fs)) (hci : vwCl[ci]? = some q) (hqc : q.1 = C') (isC : List Nat) (hC : isC.map (fun i => ws[i]?) = wc.map some) (hnd : va_nd isC = true) (ha : ∀ u, (Wf u).map Prod.fst = wc.map Prod.fst) (hw : ∀ u, wput ws isC (Wf u) = ws' u) (k : ∀ (u : S), post u → RUN g nL p l e R s m args below meth c A cells slots Q (ws' u) (pc + 3) lv rest) : RUN g nL p l e R s m args below meth c A cells slots Q ws pc lv st0 := fun ls H locs h1 h2 h3 h4 =>
  aft_v h1 h2 h3 h4 isC hC (pre_call (av := []) C h2 h3 h4 isC hC hnd).1 (run_V (Qc := fun sz => PV g post Wf wc sz) C h1 h2 h3 h4 M kw hd hn hst hR hcs q0 ci hq hci hqc isC hC hnd) ha hw k
theorem k_Va {y : MethodName} {C' : String} {idx maxL n b : Nat} {bytes : ByteArray} {ret' : Option FieldType} {rm : Room} {S : Type} {r0 : Nat} {post : S → Prop} {Wf : S → va_W} {As : List Value} {wc : va_W} {ws' : S → va_W} {st0 : List Value} (C : CX g own cc nL ret A p s m args meth c) (kw : KV own idx C' y bytes maxL ret' n) (M : ∀ sz, Met l y (.code y bytes maxL ret' :: wsL_law) rm (PR g (.ref b :: As) wc sz) (PA g r0 post Wf wc sz) 0 0 (va_A wc sz)) (hd : decode cc pc = .ok (.invokevirtual idx, 3)) (hn : As.length = n) (hst : st0 = As.reverse ++ .ref b :: rest) (hR : RM rm R maxL rest = true) (hcs : Nat.ble cells R.cells = true ∧ Nat.ble slots R.slots = true) (q0 ci : Nat) {fs : List Value} {q : vw_C} (hq : ws[q0]? = some (b, oB ci fs)) (hci : vwCl[ci]? = some q) (hqc : q.1 = C') (isC : List Nat) (hC : isC.map (fun i => ws[i]?) = wc.map some) (hnd : va_nd isC = true) (ha : ∀ u, (Wf u).map Prod.fst = wc.map Prod.fst) (hw : ∀ u, wput ws isC (Wf u) = ws' u) (k : ∀ (u : S), post u → RUN g nL p l e R s m args below meth c A cells slots Q (ws' u) (pc + 3) lv (.ref r0 :: rest)) : RUN g nL p l e R s m args below meth c A cells slots Q ws pc lv st0 := fun ls H locs h1 h2 h3 h4 =>
  aft_a h1 h2 h3 h4 isC hC (pre_call (av := []) C h2 h3 h4 isC hC hnd).1 (run_V (Qc := fun sz => PA g r0 post Wf wc sz) C h1 h2 h3 h4 M kw hd hn hst hR hcs q0 ci hq hci hqc isC hC hnd) ha hw k
theorem k_Si {y : MethodName} {idx maxL n : Nat} {bytes : ByteArray} {ret' : Option FieldType} {rm : Room} {S : Type} {post : Int → S → Prop} {Wf : S → va_W} {As : List Value} {wc : va_W} {ws' : S → va_W} {st0 : List Value} (C : CX g own cc nL ret A p s m args meth c) (kw : KS own idx y bytes maxL ret' n) (M : ∀ sz, Met l y (.code y bytes maxL ret' :: wsL_law) rm (PR g As wc sz) (PI g post Wf wc sz) 0 0 (va_A wc sz)) (hd : decode cc pc = .ok (.invokestatic idx, 3)) (hn : As.length = n) (hst : st0 = As.reverse ++ rest) (hR : RM rm R maxL rest = true) (hcs : Nat.ble cells R.cells = true ∧ Nat.ble slots R.slots = true) (isC : List Nat) (hC : isC.map (fun i => ws[i]?) = wc.map some) (hnd : va_nd isC = true) (ha : ∀ u, (Wf u).map Prod.fst = wc.map Prod.fst) (hw : ∀ u, wput ws isC (Wf u) = ws' u) (k : ∀ (x : Int) (u : S), post x u → RUN g nL p l e R s m args below meth c A cells slots Q (ws' u) (pc + 3) lv (vi x :: rest)) : RUN g nL p l e R s m args below meth c A cells slots Q ws pc lv st0 := fun ls H locs h1 h2 h3 h4 =>
  aft_i h1 h2 h3 h4 isC hC (pre_call (av := []) C h2 h3 h4 isC hC hnd).1 (run_S (Qc := fun sz => PI g post Wf wc sz) C h1 h2 h3 h4 M kw hd hn hst hR hcs isC hC hnd) ha hw k
theorem k_Sv {y : MethodName} {idx maxL n : Nat} {bytes : ByteArray} {ret' : Option FieldType} {rm : Room} {S : Type} {post : S → Prop} {Wf : S → va_W} {As : List Value} {wc : va_W} {ws' : S → va_W} {st0 : List Value} (C : CX g own cc nL ret A p s m args meth c) (kw : KS own idx y bytes maxL ret' n) (M : ∀ sz, Met l y (.code y bytes maxL ret' :: wsL_law) rm (PR g As wc sz) (PV g post Wf wc sz) 0 0 (va_A wc sz)) (hd : decode cc pc = .ok (.invokestatic idx, 3)) (hn : As.length = n) (hst : st0 = As.reverse ++ rest) (hR : RM rm R maxL rest = true) (hcs : Nat.ble cells R.cells = true ∧ Nat.ble slots R.slots = true) (isC : List Nat) (hC : isC.map (fun i => ws[i]?) = wc.map some) (hnd : va_nd isC = true) (ha : ∀ u, (Wf u).map Prod.fst = wc.map Prod.fst) (hw : ∀ u, wput ws isC (Wf u) = ws' u) (k : ∀ (u : S), post u → RUN g nL p l e R s m args below meth c A cells slots Q (ws' u) (pc + 3) lv rest) : RUN g nL p l e R s m args below meth c A cells slots Q ws pc lv st0 := fun ls H locs h1 h2 h3 h4 =>
  aft_v h1 h2 h3 h4 isC hC (pre_call (av := []) C h2 h3 h4 isC hC hnd).1 (run_S (Qc := fun sz => PV g post Wf wc sz) C h1 h2 h3 h4 M kw hd hn hst hR hcs isC hC hnd) ha hw k
theorem k_Sa {y : MethodName} {idx maxL n : Nat} {bytes : ByteArray} {ret' : Option FieldType} {rm : Room} {S : Type} {r0 : Nat} {post : S → Prop} {Wf : S → va_W} {As : List Value} {wc : va_W} {ws' : S → va_W} {st0 : List Value} (C : CX g own cc nL ret A p s m args meth c) (kw : KS own idx y bytes maxL ret' n) (M : ∀ sz, Met l y (.code y bytes maxL ret' :: wsL_law) rm (PR g As wc sz) (PA g r0 post Wf wc sz) 0 0 (va_A wc sz)) (hd : decode cc pc = .ok (.invokestatic idx, 3)) (hn : As.length = n) (hst : st0 = As.reverse ++ rest) (hR : RM rm R maxL rest = true) (hcs : Nat.ble cells R.cells = true ∧ Nat.ble slots R.slots = true) (isC : List Nat) (hC : isC.map (fun i => ws[i]?) = wc.map some) (hnd : va_nd isC = true) (ha : ∀ u, (Wf u).map Prod.fst = wc.map Prod.fst) (hw : ∀ u, wput ws isC (Wf u) = ws' u) (k : ∀ (u : S), post u → RUN g nL p l e R s m args below meth c A cells slots Q (ws' u) (pc + 3) lv (.ref r0 :: rest)) : RUN g nL p l e R s m args below meth c A cells slots Q ws pc lv st0 := fun ls H locs h1 h2 h3 h4 =>
  aft_a h1 h2 h3 h4 isC hC (pre_call (av := []) C h2 h3 h4 isC hC hnd).1 (run_S (Qc := fun sz => PA g r0 post Wf wc sz) C h1 h2 h3 h4 M kw hd hn hst hR hcs isC hC hnd) ha hw k
theorem k_Ni {y : MethodName} {host : String} {idx maxL n : Nat} {bytes : ByteArray} {ret' : Option FieldType} {rm : Room} {S : Type} {post : Int → S → Prop} {Wf : S → va_W} {As : List Value} {wc : va_W} {ws' : S → va_W} {st0 : List Value} (C : CX g own cc nL ret A p s m args meth c) (kw : KN own idx host y bytes maxL ret' n) (M : ∀ sz, Met l y (.code y bytes maxL ret' :: wsL_law) rm (PR g As wc sz) (PI g post Wf wc sz) 0 0 (va_A wc sz)) (hd : decode cc pc = .ok (.invokestatic idx, 3)) (hn : As.length = n) (hst : st0 = As.reverse ++ rest) (hR : RM rm R maxL rest = true) (hcs : Nat.ble cells R.cells = true ∧ Nat.ble slots R.slots = true) (isC : List Nat) (hC : isC.map (fun i => ws[i]?) = wc.map some) (hnd : va_nd isC = true) (ha : ∀ u, (Wf u).map Prod.fst = wc.map Prod.fst) (hw : ∀ u, wput ws isC (Wf u) = ws' u) (k : ∀ (x : Int) (u : S), post x u → RUN g nL p l e R s m args below meth c A cells slots Q (ws' u) (pc + 3) lv (vi x :: rest)) : RUN g nL p l e R s m args below meth c A cells slots Q ws pc lv st0 := fun ls H locs h1 h2 h3 h4 =>
  aft_i h1 h2 h3 h4 isC hC (pre_call (av := []) C h2 h3 h4 isC hC hnd).1 (run_N (Qc := fun sz => PI g post Wf wc sz) C h1 h2 h3 h4 M kw hd hn hst hR hcs isC hC hnd) ha hw k
theorem k_Nv {y : MethodName} {host : String} {idx maxL n : Nat} {bytes : ByteArray} {ret' : Option FieldType} {rm : Room} {S : Type} {post : S → Prop} {Wf : S → va_W} {As : List Value} {wc : va_W} {ws' : S → va_W} {st0 : List Value} (C : CX g own cc nL ret A p s m args meth c) (kw : KN own idx host y bytes maxL ret' n) (M : ∀ sz, Met l y (.code y bytes maxL ret' :: wsL_law) rm (PR g As wc sz) (PV g post Wf wc sz) 0 0 (va_A wc sz)) (hd : decode cc pc = .ok (.invokestatic idx, 3)) (hn : As.length = n) (hst : st0 = As.reverse ++ rest) (hR : RM rm R maxL rest = true) (hcs : Nat.ble cells R.cells = true ∧ Nat.ble slots R.slots = true) (isC : List Nat) (hC : isC.map (fun i => ws[i]?) = wc.map some) (hnd : va_nd isC = true) (ha : ∀ u, (Wf u).map Prod.fst = wc.map Prod.fst) (hw : ∀ u, wput ws isC (Wf u) = ws' u) (k : ∀ (u : S), post u → RUN g nL p l e R s m args below meth c A cells slots Q (ws' u) (pc + 3) lv rest) : RUN g nL p l e R s m args below meth c A cells slots Q ws pc lv st0 := fun ls H locs h1 h2 h3 h4 =>
  aft_v h1 h2 h3 h4 isC hC (pre_call (av := []) C h2 h3 h4 isC hC hnd).1 (run_N (Qc := fun sz => PV g post Wf wc sz) C h1 h2 h3 h4 M kw hd hn hst hR hcs isC hC hnd) ha hw k
theorem k_Na {y : MethodName} {host : String} {idx maxL n : Nat} {bytes : ByteArray} {ret' : Option FieldType} {rm : Room} {S : Type} {r0 : Nat} {post : S → Prop} {Wf : S → va_W} {As : List Value} {wc : va_W} {ws' : S → va_W} {st0 : List Value} (C : CX g own cc nL ret A p s m args meth c) (kw : KN own idx host y bytes maxL ret' n) (M : ∀ sz, Met l y (.code y bytes maxL ret' :: wsL_law) rm (PR g As wc sz) (PA g r0 post Wf wc sz) 0 0 (va_A wc sz)) (hd : decode cc pc = .ok (.invokestatic idx, 3)) (hn : As.length = n) (hst : st0 = As.reverse ++ rest) (hR : RM rm R maxL rest = true) (hcs : Nat.ble cells R.cells = true ∧ Nat.ble slots R.slots = true) (isC : List Nat) (hC : isC.map (fun i => ws[i]?) = wc.map some) (hnd : va_nd isC = true) (ha : ∀ u, (Wf u).map Prod.fst = wc.map Prod.fst) (hw : ∀ u, wput ws isC (Wf u) = ws' u) (k : ∀ (u : S), post u → RUN g nL p l e R s m args below meth c A cells slots Q (ws' u) (pc + 3) lv (.ref r0 :: rest)) : RUN g nL p l e R s m args below meth c A cells slots Q ws pc lv st0 := fun ls H locs h1 h2 h3 h4 =>
  aft_a h1 h2 h3 h4 isC hC (pre_call (av := []) C h2 h3 h4 isC hC hnd).1 (run_N (Qc := fun sz => PA g r0 post Wf wc sz) C h1 h2 h3 h4 M kw hd hn hst hR hcs isC hC hnd) ha hw k
end
theorem CX.of {g : Gx} {l : Launch} {y : MethodName} {cc : ByteArray} {nL : Nat} {ret : Option FieldType} {rm : Room} {av : List Value} {ws : va_W} {sz : Nat} {p : Program} {e : Env} {s : State} {m : MethodId} {args : Array Value} {below : List Frame} {meth : Method} {c : Code} {s1 : State} (B : BodyLoose p l y (headSpec (.code y cc nL ret :: wsL_law) rm) cc nL ret e s m args below meth c s1) (hml : c.maxLocals = nL) (hv : PR g av ws sz args s) : CX g y.cls cc nL ret (va_A ws sz) p s m args meth c := by
  obtain ⟨-, hsz, hP, hK, hD0, hN, hZ⟩ := hv
  have hts := atoms_spec (ws := .code y cc nL ret :: wsL_law) B.pre
  exact ⟨B.exec, B.bytes, hml, findClass_of_methodNamed B.named, fun w h => hts w (List.mem_cons_of_mem _ h), hK, hN, B.returns, B.notSynchronized, fun q h => Or.inr (hsz ▸ h), hZ⟩
theorem meet {g : Gx} {l : Launch} {y : MethodName} {cc : ByteArray} {nL : Nat} {ret : Option FieldType} {rm : Room} {av : List Value} {ws : va_W} {sz : Nat} {Qc : Array Value → State → Outcome → State → Prop} (hy : plainName y.cls = true) (hav : Nat.ble (lg_sl av).length nL = true)
    (body : ∀ (p : Program) (e : Env) (s : State) (m : MethodId) (args : Array Value) (below : List Frame) (meth : Method) (c : Code), CX g y.cls cc nL ret (va_A ws sz) p s m args meth c → (y.name = meth.name) → RUN g nL p l e rm s m args below meth c (va_A ws sz) 0 0 (MQ below Qc args s 0 0 (va_A ws sz)) ws 0 (lv_args 0 av) []) : Met l y (.code y cc nL ret :: wsL_law) rm (PR g av ws sz) Qc 0 0 (va_A ws sz) := by
  refine Met.ofW (cc := cc) (maxL := nL) (ret := ret) hy rfl ?_
  intro p e s m args below meth c s1 B hml hv
  have hC := CX.of B hml hv
  have hnm : meth.name = y.name := (name_of_methodNamed B.named B.method).1
  obtain ⟨rfl, hsz, hP, hK, hD0, hN, hZ⟩ := hv
  have hl := lv_entry av (n := nL) (Nat.le_of_ble_eq_true hav)
  rw [lg_entry_eq]
  exact body p e s m _ below meth c hC hnm.symm _ s.heap [] hl hP (hD0.self (sz := sz)) va_S.rf
section
variable {g : Gx} {own : String} {cc : ByteArray} {nL : Nat} {ret : Option FieldType} {p : Program} {l : Launch} {e : Env} {R : Room} {s : State} {m : MethodId} {args : Array Value} {below : List Frame} {meth : Method} {c : Code} {wc : va_W} {sz : Nat} {ws : va_W} {pc : Nat} {lv : List (Nat × Value)} {S : Type} {Wf : S → va_W}
theorem e_i {post : Int → S → Prop} (C : CX g own cc nL (some .int) (va_A wc sz) p s m args meth c) {x : Int} (u : S) (hd : decode cc pc = .ok (.ireturn, 1)) (hp : post x u) (hw : Wf u = ws) : RUN g nL p l e R s m args below meth c (va_A wc sz) 0 0 (MQ below (PI g post Wf wc sz) args s 0 0 (va_A wc sz)) ws pc lv [vi x] := fun ls H locs h1 h2 h3 h4 => by
  subst hw
  exact W.iret C.1 C.2.1 C.2.2.2.2.2.2.2.1 (fun t ht hW => ⟨⟨zI x, u, rfl, ⟨x, rfl, hp⟩, by rw [ht]; exact h2, h3⟩, h4.F ht⟩) h4.2.2 hd C.2.2.2.2.2.2.2.2.1
theorem e_z {post : Int → S → Prop} (C : CX g own cc nL (some .boolean) (va_A wc sz) p s m args meth c) {x : Int} (u : S) (hd : decode cc pc = .ok (.ireturn, 1)) (hx : x = 0 ∨ x = 1) (hp : post x u) (hw : Wf u = ws) : RUN g nL p l e R s m args below meth c (va_A wc sz) 0 0 (MQ below (PI g post Wf wc sz) args s 0 0 (va_A wc sz)) ws pc lv [vi x] := fun ls H locs h1 h2 h3 h4 => by
  subst hw
  exact W.zret C.1 C.2.1 C.2.2.2.2.2.2.2.1 (by rcases hx with rfl | rfl <;> rfl) (fun t ht hW => ⟨⟨zI x, u, rfl, ⟨x, rfl, hp⟩, by rw [ht]; exact h2, h3⟩, h4.F ht⟩) h4.2.2 hd C.2.2.2.2.2.2.2.2.1
theorem e_c {post : Int → S → Prop} (C : CX g own cc nL (some .char) (va_A wc sz) p s m args meth c) {x : Int} (u : S) (hd : decode cc pc = .ok (.ireturn, 1)) (hx : narrow .char (vi x) = vi x) (hp : post x u) (hw : Wf u = ws) : RUN g nL p l e R s m args below meth c (va_A wc sz) 0 0 (MQ below (PI g post Wf wc sz) args s 0 0 (va_A wc sz)) ws pc lv [vi x] := fun ls H locs h1 h2 h3 h4 => by
  subst hw
  exact W.zret C.1 C.2.1 C.2.2.2.2.2.2.2.1 hx (fun t ht hW => ⟨⟨zI x, u, rfl, ⟨x, rfl, hp⟩, by rw [ht]; exact h2, h3⟩, h4.F ht⟩) h4.2.2 hd C.2.2.2.2.2.2.2.2.1
theorem e_v {post : S → Prop} (C : CX g own cc nL none (va_A wc sz) p s m args meth c) (u : S) (hd : decode cc pc = .ok (.return_, 1)) (hp : post u) (hw : Wf u = ws) : RUN g nL p l e R s m args below meth c (va_A wc sz) 0 0 (MQ below (PV g post Wf wc sz) args s 0 0 (va_A wc sz)) ws pc lv [] := fun ls H locs h1 h2 h3 h4 => by
  subst hw
  exact W.vret C.1 C.2.1 C.2.2.2.2.2.2.2.1 (fun t ht hW => ⟨⟨u, rfl, hp, by rw [ht]; exact h2, h3⟩, h4.F ht⟩) h4.2.2 hd C.2.2.2.2.2.2.2.2.1
theorem e_a {b : Nat} {nm : String} {post : S → Prop} (C : CX g own cc nL (some (.object nm)) (va_A wc sz) p s m args meth c) (u : S) (hd : decode cc pc = .ok (.areturn, 1)) (hp : post u) (hw : Wf u = ws) : RUN g nL p l e R s m args below meth c (va_A wc sz) 0 0 (MQ below (PA g b post Wf wc sz) args s 0 0 (va_A wc sz)) ws pc lv [.ref b] := fun ls H locs h1 h2 h3 h4 => by
  subst hw
  exact W.aret C.1 C.2.1 C.2.2.2.2.2.2.2.1 (Or.inl ⟨_, rfl⟩) (Or.inr ⟨b, rfl⟩) (fun t ht hW => ⟨⟨u, b, rfl, hp, rfl, by rw [ht]; exact h2, h3⟩, h4.F ht⟩) h4.2.2 hd C.2.2.2.2.2.2.2.2.1
end
end
